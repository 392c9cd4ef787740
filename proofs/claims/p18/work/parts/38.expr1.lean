theorem oz_4550f3b49c {a0 : Int}  : a0 ≤ a0 + 4 := by omega
theorem oz_4244efe5c1 {a0 a1 a2 : Int} (h0 : a1 ≤ a0) (h1 : a1 = a2 + (1 : Int)) (h2 : 1 ≤ a2) : 1 ≤ a0 := by omega
theorem oz_290fdae571 {a0 a1 : Int} (h0 : a1 ≤ a0) (h1 : 1 ≤ a1) : 1 ≤ a0 := by omega
theorem oz_a97abccd3f {a0 a1 : Int} (h0 : a0 = a1) (h1 : 1 ≤ a1) : 1 ≤ a0 := by omega
theorem oz_82177ca36c {a0 a1 : Int} (h0 : a0 = a1) (h1 : a1 ≤ 1000000) : a0 ≤ 1000000 := by omega
theorem oz_cbf156e4b5 {a0 a1 a2 : Int} (h0 : a2 = a1) (h1 : a0 = a2 + 1) : a0 = a1 + 1 := by omega
theorem oz_3980c4833a {a0 a1 a2 : Int} (h0 : a2 = a1) (h1 : a0 ≤ a2 + 4) : a0 ≤ a1 + 4 := by omega
theorem oz_26f57824b4 {a0 a1 : Int} (h0 : a0 ≤ a1 + 4) : a0 ≤ a1 + 8 := by omega
theorem oz_c42f88acc2 {a0 a1 a2 : Int} (h0 : a2 ≤ a1 + 4) (h1 : a0 ≤ a2 + 4) : a0 ≤ a1 + 8 := by omega
theorem m4_221 : Cond.fieldLink "HomeSystem$Expressions" 79 "HomeSystem$Operand" "sort" "I" ∈ AL := AL_4 (List.mem_of_getElem? (i := 221) rfl) rfl
theorem m4_226 : Cond.fieldLink "HomeSystem$Expressions" 91 "HomeSystem$Operand" "symbol" "LHomeSystem$Symbol;" ∈ AL := AL_4 (List.mem_of_getElem? (i := 226) rfl) rfl
theorem m1_213 : Cond.fieldLink "HomeSystem$Expressions" 95 "HomeSystem$Symbol" "mode" "I" ∈ AL := AL_1 (List.mem_of_getElem? (i := 213) rfl) rfl
theorem m1_216 : Cond.fieldLink "HomeSystem$Expressions" 100 "HomeSystem$Symbol" "base" "I" ∈ AL := AL_1 (List.mem_of_getElem? (i := 216) rfl) rfl
theorem m1_219 : Cond.fieldLink "HomeSystem$Expressions" 103 "HomeSystem$Symbol" "size" "I" ∈ AL := AL_1 (List.mem_of_getElem? (i := 219) rfl) rfl
theorem m4_178 : Cond.methodLink "HomeSystem$Expressions" 106 ⟨"HomeSystem$Program", "emit", "(IIII)I"⟩ ∈ AL := AL_4 (List.mem_of_getElem? (i := 178) rfl) rfl
theorem m4_181 : Cond.code ⟨"HomeSystem$Program", "emit", "(IIII)I"⟩ prog_7_method_2_code 6 (Option.some FieldType.int) ∈ AL := AL_4 (List.mem_of_getElem? (i := 181) rfl) rfl
theorem m4_180 : Cond.selects "HomeSystem$Program" ⟨"HomeSystem$Program", "emit", "(IIII)I"⟩ ⟨"HomeSystem$Program", "emit", "(IIII)I"⟩ ∈ AL := AL_4 (List.mem_of_getElem? (i := 180) rfl) rfl
theorem m4_179 : Cond.instanceMethod ⟨"HomeSystem$Program", "emit", "(IIII)I"⟩ ∈ AL := AL_4 (List.mem_of_getElem? (i := 179) rfl) rfl
theorem m4_225 : Cond.fieldLink "HomeSystem$Expressions" 88 "HomeSystem$Operand" "call" "I" ∈ AL := AL_4 (List.mem_of_getElem? (i := 225) rfl) rfl
theorem m4_170 : Cond.methodLink "HomeSystem$Expressions" 85 ⟨"HomeSystem$Tokens", "blame", "(II)V"⟩ ∈ AL := AL_4 (List.mem_of_getElem? (i := 170) rfl) rfl
theorem m4_173 : Cond.code ⟨"HomeSystem$Tokens", "blame", "(II)V"⟩ prog_12_method_37_code 3 (Option.none : Option Jvm.ClassFile.FieldType) ∈ AL := AL_4 (List.mem_of_getElem? (i := 173) rfl) rfl
theorem m4_172 : Cond.selects "HomeSystem$Tokens" ⟨"HomeSystem$Tokens", "blame", "(II)V"⟩ ⟨"HomeSystem$Tokens", "blame", "(II)V"⟩ ∈ AL := AL_4 (List.mem_of_getElem? (i := 172) rfl) rfl
theorem m4_171 : Cond.instanceMethod ⟨"HomeSystem$Tokens", "blame", "(II)V"⟩ ∈ AL := AL_4 (List.mem_of_getElem? (i := 171) rfl) rfl
theorem m4_218 : Cond.fieldLink "HomeSystem$Expressions" 82 "HomeSystem$Operand" "first" "I" ∈ AL := AL_4 (List.mem_of_getElem? (i := 218) rfl) rfl
theorem m2_107 : Cond.fieldLink "HomeSystem$Expressions" 112 "HomeSystem$Program" "size" "I" ∈ AL := AL_2 (List.mem_of_getElem? (i := 107) rfl) rfl
theorem m5_85 : Cond.methodLink "HomeSystem$Expressions" 116 ⟨"HomeSystem$Program", "aim", "(II)V"⟩ ∈ AL := AL_5 (List.mem_of_getElem? (i := 85) rfl) rfl
theorem m5_88 : Cond.code ⟨"HomeSystem$Program", "aim", "(II)V"⟩ prog_7_method_3_code 6 (Option.none : Option Jvm.ClassFile.FieldType) ∈ AL := AL_5 (List.mem_of_getElem? (i := 88) rfl) rfl
theorem m5_87 : Cond.selects "HomeSystem$Program" ⟨"HomeSystem$Program", "aim", "(II)V"⟩ ⟨"HomeSystem$Program", "aim", "(II)V"⟩ ∈ AL := AL_5 (List.mem_of_getElem? (i := 87) rfl) rfl
theorem m5_86 : Cond.instanceMethod ⟨"HomeSystem$Program", "aim", "(II)V"⟩ ∈ AL := AL_5 (List.mem_of_getElem? (i := 86) rfl) rfl
theorem m4_223 : Cond.fieldLink "HomeSystem$Expressions" 113 "HomeSystem$Operand" "state" "I" ∈ AL := AL_4 (List.mem_of_getElem? (i := 223) rfl) rfl
theorem m4_235 : Cond.fieldLink "HomeSystem$Expressions" 123 "HomeSystem$Operand" "number" "I" ∈ AL := AL_4 (List.mem_of_getElem? (i := 235) rfl) rfl
theorem m5_92 : Cond.methodLink "HomeSystem$Expressions" 119 ⟨"HomeSystem$Expressions", "foldLogic", "(LHomeSystem$Operand;ZLHomeSystem$Operand;)V"⟩ ∈ AL := AL_5 (List.mem_of_getElem? (i := 92) rfl) rfl
theorem m5_94 : Cond.code ⟨"HomeSystem$Expressions", "foldLogic", "(LHomeSystem$Operand;ZLHomeSystem$Operand;)V"⟩ prog_3_method_11_code 3 (Option.none : Option Jvm.ClassFile.FieldType) ∈ AL := AL_5 (List.mem_of_getElem? (i := 94) rfl) rfl
theorem m1_17 : Cond.initialized "HomeSystem$Expressions" ∈ AL := AL_1 (List.mem_of_getElem? (i := 17) rfl) rfl
theorem m5_93 : Cond.static ⟨"HomeSystem$Expressions", "foldLogic", "(LHomeSystem$Operand;ZLHomeSystem$Operand;)V"⟩ ∈ AL := AL_5 (List.mem_of_getElem? (i := 93) rfl) rfl
theorem m5_98n : Cond.methodLinkNest "HomeSystem$Expressions" 129 ⟨"HomeSystem", "reckon", "(III)I"⟩ "HomeSystem" ∈ tables_1 := by unfold tables_1; exact List.mem_append_right _ (List.mem_append_right _ (List.mem_append_right _ (List.mem_append_right _ (List.mem_append_left _ (List.mem_of_getElem? (i := 98) rfl)))))
theorem m5_95n : Cond.methodLinkNest "HomeSystem$Expressions" 125 ⟨"HomeSystem", "byZero", "(II)Z"⟩ "HomeSystem" ∈ tables_1 := by unfold tables_1; exact List.mem_append_right _ (List.mem_append_right _ (List.mem_append_right _ (List.mem_append_right _ (List.mem_append_left _ (List.mem_of_getElem? (i := 95) rfl)))))
theorem m4_233 : Cond.fieldLink "HomeSystem$Expressions" 133 "HomeSystem$Operand" "rank" "I" ∈ AL := AL_4 (List.mem_of_getElem? (i := 233) rfl) rfl
theorem m4_228 : Cond.fieldLink "HomeSystem$Expressions" 41 "HomeSystem$Operand" "depth" "I" ∈ AL := AL_4 (List.mem_of_getElem? (i := 228) rfl) rfl
theorem m5_43 : Cond.methodLink "HomeSystem$Expressions" 135 ⟨"java/lang/Math", "max", "(II)I"⟩ ∈ AL := AL_5 (List.mem_of_getElem? (i := 43) rfl) rfl
theorem m4_230 : Cond.fieldLink "HomeSystem$Expressions" 141 "HomeSystem$Operand" "height" "I" ∈ AL := AL_4 (List.mem_of_getElem? (i := 230) rfl) rfl
theorem m4_182 : Cond.methodLink "HomeSystem$Expressions" 147 ⟨"HomeSystem$Operand", "become", "(I)V"⟩ ∈ AL := AL_4 (List.mem_of_getElem? (i := 182) rfl) rfl
theorem m4_185 : Cond.code ⟨"HomeSystem$Operand", "become", "(I)V"⟩ prog_6_method_2_code 2 (Option.none : Option Jvm.ClassFile.FieldType) ∈ AL := AL_4 (List.mem_of_getElem? (i := 185) rfl) rfl
theorem m1_31 : Cond.initialized "HomeSystem$Operand" ∈ AL := AL_1 (List.mem_of_getElem? (i := 31) rfl) rfl
theorem m4_184 : Cond.selects "HomeSystem$Operand" ⟨"HomeSystem$Operand", "become", "(I)V"⟩ ⟨"HomeSystem$Operand", "become", "(I)V"⟩ ∈ AL := AL_4 (List.mem_of_getElem? (i := 184) rfl) rfl
theorem m4_183 : Cond.instanceMethod ⟨"HomeSystem$Operand", "become", "(I)V"⟩ ∈ AL := AL_4 (List.mem_of_getElem? (i := 183) rfl) rfl
theorem m5_40 : Cond.methodLink "HomeSystem$Expressions" 235 ⟨"HomeSystem$Expressions", "typeOf", "(LHomeSystem$Symbol;)I"⟩ ∈ AL := AL_5 (List.mem_of_getElem? (i := 40) rfl) rfl
theorem m5_42 : Cond.code ⟨"HomeSystem$Expressions", "typeOf", "(LHomeSystem$Symbol;)I"⟩ prog_3_method_25_code 1 (Option.some FieldType.int) ∈ AL := AL_5 (List.mem_of_getElem? (i := 42) rfl) rfl
theorem m5_41 : Cond.static ⟨"HomeSystem$Expressions", "typeOf", "(LHomeSystem$Symbol;)I"⟩ ∈ AL := AL_5 (List.mem_of_getElem? (i := 41) rfl) rfl
theorem m1_226 : Cond.fieldLink "HomeSystem$Expressions" 239 "HomeSystem$Symbol" "type" "I" ∈ AL := AL_1 (List.mem_of_getElem? (i := 226) rfl) rfl
theorem m1_223 : Cond.fieldLink "HomeSystem$Expressions" 216 "HomeSystem$Symbol" "number" "I" ∈ AL := AL_1 (List.mem_of_getElem? (i := 223) rfl) rfl
theorem m4_186 : Cond.methodLink "HomeSystem$Expressions" 51 ⟨"HomeSystem$Expressions", "number", "(LHomeSystem$Operand;)V"⟩ ∈ AL := AL_4 (List.mem_of_getElem? (i := 186) rfl) rfl
theorem m4_189 : Cond.code ⟨"HomeSystem$Expressions", "number", "(LHomeSystem$Operand;)V"⟩ prog_3_method_5_code 2 (Option.none : Option Jvm.ClassFile.FieldType) ∈ AL := AL_4 (List.mem_of_getElem? (i := 189) rfl) rfl
theorem m4_188 : Cond.selects "HomeSystem$Expressions" ⟨"HomeSystem$Expressions", "number", "(LHomeSystem$Operand;)V"⟩ ⟨"HomeSystem$Expressions", "number", "(LHomeSystem$Operand;)V"⟩ ∈ AL := AL_4 (List.mem_of_getElem? (i := 188) rfl) rfl
theorem m4_187 : Cond.instanceMethod ⟨"HomeSystem$Expressions", "number", "(LHomeSystem$Operand;)V"⟩ ∈ AL := AL_4 (List.mem_of_getElem? (i := 187) rfl) rfl
/-- a 1 says that it isn't null -/
def Nn (v : Int32) (o : Option Nat) : Prop := v.toInt = 1 → ∃ a, o = some a
theorem or_shl8 (k : Int32) (x : Int32) (h : (k &&& 255) = k) : ((k ||| (x <<< ((8 : Int32) &&& 31))) &&& 255) = k := by
  rw [show ((8 : Int32) &&& 31) = 8 from by decide]
  have h1 : k.toBitVec &&& 255#32 = k.toBitVec := congrArg Int32.toBitVec h
  apply Int32.toBitVec_inj.mp
  show (k.toBitVec ||| (x.toBitVec <<< (BitVec.smod 8#32 32#32))) &&& 255#32 = k.toBitVec
  have e : BitVec.smod 8#32 32#32 = 8#32 := by decide
  rw [e]
  generalize k.toBitVec = a at h1
  generalize x.toBitVec = b
  apply BitVec.eq_of_getLsbD_eq
  intro i hi
  have h2 : (a &&& 255#32).getLsbD i = a.getLsbD i := by rw [h1]
  rw [BitVec.getLsbD_and] at h2
  rw [BitVec.getLsbD_and, BitVec.getLsbD_or]
  by_cases h8 : i < 8
  · have e1 : (b <<< 8#32).getLsbD i = false := by
      show (b <<< (8#32).toNat).getLsbD i = false
      rw [BitVec.getLsbD_shiftLeft]
      have : i < (8#32).toNat := h8
      simp only [this, decide_true, Bool.not_true, Bool.and_false, Bool.false_and]
    rw [e1, Bool.or_false]
    exact h2
  · have e2 : (255#32).getLsbD i = false := by
      apply Nat.testBit_lt_two_pow
      calc (255#32).toNat < 2 ^ 8 := by decide
        _ ≤ 2 ^ i := Nat.pow_le_pow_right (by decide) (by omega)
    rw [e2, Bool.and_false] at h2
    rw [e2, Bool.and_false]
    exact h2
set_option maxHeartbeats 4000000 in
set_option maxRecDepth 100000 in
theorem c_ex_rank (l : Launch) (D : va_G) (cs : Nat → ClassId)  (p0 : Int32)   : MetI l y_Exp_rank b_Exp_rank 1 (.int) D cs 0 0 (0) (0) [.int p0] [] (fun _ => True) (fun v ps => (ps = []) ∧ (0 ≤ v.toInt) ∧ (v.toInt ≤ 10) ∧ (1 ≤ v.toInt → 37 ≤ p0.toInt)) := by
  refine px_enter (by decide) (Nat.le_of_ble_eq_true rfl) ?_
  intro p e s m below meth c A ls hAe S hr hlk hnm hA hT hX hw hl
  replace hl : lv_has ls 1 [(0, .int p0)] := hl
  have lp0 := Int32.le_toInt p0
  have up0 := Int32.toInt_lt p0
  have cst0 : (0 : Int32).toInt = 0 := rfl
  have cst1 : (1 : Int32).toInt = 1 := rfl
  have cst2 : (2 : Int32).toInt = 2 := rfl
  have cst3 : (3 : Int32).toInt = 3 := rfl
  have cst4 : (4 : Int32).toInt = 4 := rfl
  have cst5 : (5 : Int32).toInt = 5 := rfl
  have cst6 : (6 : Int32).toInt = 6 := rfl
  have cst7 : (7 : Int32).toInt = 7 := rfl
  have cst8 : (8 : Int32).toInt = 8 := rfl
  have cst9 : (9 : Int32).toInt = 9 := rfl
  have cst10 : (10 : Int32).toInt = 10 := rfl
  refine lv_iload_n S.x S.b d_Exp_rank_0 rfl (lv_at hl 0 rfl) ?_
  refine px_lookupK S (dt := 181) [(178, [37, 42, 47]), (164, [38]), (175, [43, 45]), (169, [60, 62, 132, 133]), (162, [94]), (160, [124]), (166, [130, 131]), (172, [134, 135]), (158, [136]), (156, [137])] d_Exp_rank_1 (by decide +kernel) (by decide) (by decide +kernel) ?_ ?_
  ·
    refine lv_iconst (v := 0) S.x S.b d_Exp_rank_181 (by decide) ?_
    exact px_iret (v := 0) S hr rfl hlk hAe hw (Nat.le_of_ble_eq_true rfl) (Nat.le_of_ble_eq_true rfl) (⟨rfl, (show 0 ≤ (0 : Int) from by first | decide | omega), (show (0 : Int) ≤ 10 from by first | decide | omega), (show 1 ≤ (0 : Int) → 37 ≤ p0.toInt from by first | with_reducible rfl | with_reducible assumption | omega)⟩) d_Exp_rank_182
  · refine List.forall_mem_cons.mpr ⟨fun c1 => ?_, List.forall_mem_cons.mpr ⟨fun c1 => ?_, List.forall_mem_cons.mpr ⟨fun c1 => ?_, List.forall_mem_cons.mpr ⟨fun c1 => ?_, List.forall_mem_cons.mpr ⟨fun c1 => ?_, List.forall_mem_cons.mpr ⟨fun c1 => ?_, List.forall_mem_cons.mpr ⟨fun c1 => ?_, List.forall_mem_cons.mpr ⟨fun c1 => ?_, List.forall_mem_cons.mpr ⟨fun c1 => ?_, List.forall_mem_cons.mpr ⟨fun c1 => ?_, fun _ h => absurd h List.not_mem_nil⟩⟩⟩⟩⟩⟩⟩⟩⟩⟩
    · simp only [List.mem_cons, List.not_mem_nil, or_false] at c1
      refine lv_bipush (v := 10) S.x S.b d_Exp_rank_178 (by decide) ?_
      exact px_iret (v := 10) S hr rfl hlk hAe hw (Nat.le_of_ble_eq_true rfl) (Nat.le_of_ble_eq_true rfl) (⟨rfl, (show 0 ≤ (10 : Int) from by first | decide | omega), (show (10 : Int) ≤ 10 from by first | decide | omega), (show 1 ≤ (10 : Int) → 37 ≤ p0.toInt from by first | with_reducible rfl | with_reducible assumption | omega)⟩) d_Exp_rank_180
    · simp only [List.mem_cons, List.not_mem_nil, or_false] at c1
      refine lv_iconst (v := 5) S.x S.b d_Exp_rank_164 (by decide) ?_
      exact px_iret (v := 5) S hr rfl hlk hAe hw (Nat.le_of_ble_eq_true rfl) (Nat.le_of_ble_eq_true rfl) (⟨rfl, (show 0 ≤ (5 : Int) from by first | decide | omega), (show (5 : Int) ≤ 10 from by first | decide | omega), (show 1 ≤ (5 : Int) → 37 ≤ p0.toInt from by first | with_reducible rfl | with_reducible assumption | omega)⟩) d_Exp_rank_165
    · simp only [List.mem_cons, List.not_mem_nil, or_false] at c1
      refine lv_bipush (v := 9) S.x S.b d_Exp_rank_175 (by decide) ?_
      exact px_iret (v := 9) S hr rfl hlk hAe hw (Nat.le_of_ble_eq_true rfl) (Nat.le_of_ble_eq_true rfl) (⟨rfl, (show 0 ≤ (9 : Int) from by first | decide | omega), (show (9 : Int) ≤ 10 from by first | decide | omega), (show 1 ≤ (9 : Int) → 37 ≤ p0.toInt from by first | with_reducible rfl | with_reducible assumption | omega)⟩) d_Exp_rank_177
    · simp only [List.mem_cons, List.not_mem_nil, or_false] at c1
      refine lv_bipush (v := 7) S.x S.b d_Exp_rank_169 (by decide) ?_
      exact px_iret (v := 7) S hr rfl hlk hAe hw (Nat.le_of_ble_eq_true rfl) (Nat.le_of_ble_eq_true rfl) (⟨rfl, (show 0 ≤ (7 : Int) from by first | decide | omega), (show (7 : Int) ≤ 10 from by first | decide | omega), (show 1 ≤ (7 : Int) → 37 ≤ p0.toInt from by first | with_reducible rfl | with_reducible assumption | omega)⟩) d_Exp_rank_171
    · simp only [List.mem_cons, List.not_mem_nil, or_false] at c1
      refine lv_iconst (v := 4) S.x S.b d_Exp_rank_162 (by decide) ?_
      exact px_iret (v := 4) S hr rfl hlk hAe hw (Nat.le_of_ble_eq_true rfl) (Nat.le_of_ble_eq_true rfl) (⟨rfl, (show 0 ≤ (4 : Int) from by first | decide | omega), (show (4 : Int) ≤ 10 from by first | decide | omega), (show 1 ≤ (4 : Int) → 37 ≤ p0.toInt from by first | with_reducible rfl | with_reducible assumption | omega)⟩) d_Exp_rank_163
    · simp only [List.mem_cons, List.not_mem_nil, or_false] at c1
      refine lv_iconst (v := 3) S.x S.b d_Exp_rank_160 (by decide) ?_
      exact px_iret (v := 3) S hr rfl hlk hAe hw (Nat.le_of_ble_eq_true rfl) (Nat.le_of_ble_eq_true rfl) (⟨rfl, (show 0 ≤ (3 : Int) from by first | decide | omega), (show (3 : Int) ≤ 10 from by first | decide | omega), (show 1 ≤ (3 : Int) → 37 ≤ p0.toInt from by first | with_reducible rfl | with_reducible assumption | omega)⟩) d_Exp_rank_161
    · simp only [List.mem_cons, List.not_mem_nil, or_false] at c1
      refine lv_bipush (v := 6) S.x S.b d_Exp_rank_166 (by decide) ?_
      exact px_iret (v := 6) S hr rfl hlk hAe hw (Nat.le_of_ble_eq_true rfl) (Nat.le_of_ble_eq_true rfl) (⟨rfl, (show 0 ≤ (6 : Int) from by first | decide | omega), (show (6 : Int) ≤ 10 from by first | decide | omega), (show 1 ≤ (6 : Int) → 37 ≤ p0.toInt from by first | with_reducible rfl | with_reducible assumption | omega)⟩) d_Exp_rank_168
    · simp only [List.mem_cons, List.not_mem_nil, or_false] at c1
      refine lv_bipush (v := 8) S.x S.b d_Exp_rank_172 (by decide) ?_
      exact px_iret (v := 8) S hr rfl hlk hAe hw (Nat.le_of_ble_eq_true rfl) (Nat.le_of_ble_eq_true rfl) (⟨rfl, (show 0 ≤ (8 : Int) from by first | decide | omega), (show (8 : Int) ≤ 10 from by first | decide | omega), (show 1 ≤ (8 : Int) → 37 ≤ p0.toInt from by first | with_reducible rfl | with_reducible assumption | omega)⟩) d_Exp_rank_174
    · simp only [List.mem_cons, List.not_mem_nil, or_false] at c1
      refine lv_iconst (v := 2) S.x S.b d_Exp_rank_158 (by decide) ?_
      exact px_iret (v := 2) S hr rfl hlk hAe hw (Nat.le_of_ble_eq_true rfl) (Nat.le_of_ble_eq_true rfl) (⟨rfl, (show 0 ≤ (2 : Int) from by first | decide | omega), (show (2 : Int) ≤ 10 from by first | decide | omega), (show 1 ≤ (2 : Int) → 37 ≤ p0.toInt from by first | with_reducible rfl | with_reducible assumption | omega)⟩) d_Exp_rank_159
    · simp only [List.mem_cons, List.not_mem_nil, or_false] at c1
      refine lv_iconst (v := 1) S.x S.b d_Exp_rank_156 (by decide) ?_
      exact px_iret (v := 1) S hr rfl hlk hAe hw (Nat.le_of_ble_eq_true rfl) (Nat.le_of_ble_eq_true rfl) (⟨rfl, (show 0 ≤ (1 : Int) from by first | decide | omega), (show (1 : Int) ≤ 10 from by first | decide | omega), (show 1 ≤ (1 : Int) → 37 ≤ p0.toInt from by first | with_reducible rfl | with_reducible assumption | omega)⟩) d_Exp_rank_157
set_option maxHeartbeats 4000000 in
set_option maxRecDepth 100000 in
theorem c_ex_isPrefix (l : Launch) (D : va_G) (cs : Nat → ClassId)  (p0 : Int32)   : MetI l y_Exp_isPrefix b_Exp_isPrefix 1 (.boolean) D cs 0 0 (0) (0) [.int p0] [] (fun _ => True) (fun v ps => (ps = []) ∧ (v = 0 ∨ v = 1) ∧ (v.toInt = 1 → 33 ≤ p0.toInt)) := by
  refine px_enter (by decide) (Nat.le_of_ble_eq_true rfl) ?_
  intro p e s m below meth c A ls hAe S hr hlk hnm hA hT hX hw hl
  replace hl : lv_has ls 1 [(0, .int p0)] := hl
  have lp0 := Int32.le_toInt p0
  have up0 := Int32.toInt_lt p0
  have cst0 : (0 : Int32).toInt = 0 := rfl
  have cst1 : (1 : Int32).toInt = 1 := rfl
  have cst33 : (33 : Int32).toInt = 33 := rfl
  have cst43 : (43 : Int32).toInt = 43 := rfl
  have cst45 : (45 : Int32).toInt = 45 := rfl
  have cst126 : (126 : Int32).toInt = 126 := rfl
  have cst138 : (138 : Int32).toInt = 138 := rfl
  have cst139 : (139 : Int32).toInt = 139 := rfl
  refine lv_iload_n S.x S.b d_Exp_isPrefix_0 rfl (lv_at hl 0 rfl) ?_
  refine lv_bipush (v := 45) S.x S.b d_Exp_isPrefix_1 (by decide) ?_
  refine lv_icmp_eq (tgt := 38) S.x S.b d_Exp_isPrefix_3 (by decide) (fun c1 => ?_) (fun c1 => ?_)
  · have nc1 : p0.toInt = (45 : Int) := (i_eq (x := p0) (y := 45)).mp c1
    refine lv_iconst (v := 1) S.x S.b d_Exp_isPrefix_38 (by decide) ?_
    refine lv_goto (tgt := 43) S.x S.b d_Exp_isPrefix_39 (by decide) ?_
    exact px_iret (v := 1) S hr rfl hlk hAe hw (Nat.le_of_ble_eq_true rfl) (Nat.le_of_ble_eq_true rfl) (⟨rfl, (show (1 : Int32) = 0 ∨ (1 : Int32) = 1 from by first | exact Or.inl rfl | exact Or.inr rfl | exact z_or (by omega)), (show (1 : Int) = 1 → 33 ≤ p0.toInt from by first | with_reducible rfl | with_reducible assumption | omega)⟩) d_Exp_isPrefix_43
  · have nc1 : ¬ p0.toInt = (45 : Int) := mt (i_eq (x := p0) (y := 45)).mpr c1
    refine lv_iload_n S.x S.b d_Exp_isPrefix_6 rfl (lv_at hl 0 rfl) ?_
    refine lv_bipush (v := 43) S.x S.b d_Exp_isPrefix_7 (by decide) ?_
    refine lv_icmp_eq (tgt := 38) S.x S.b d_Exp_isPrefix_9 (by decide) (fun c2 => ?_) (fun c2 => ?_)
    · have nc2 : p0.toInt = (43 : Int) := (i_eq (x := p0) (y := 43)).mp c2
      refine lv_iconst (v := 1) S.x S.b d_Exp_isPrefix_38 (by decide) ?_
      refine lv_goto (tgt := 43) S.x S.b d_Exp_isPrefix_39 (by decide) ?_
      exact px_iret (v := 1) S hr rfl hlk hAe hw (Nat.le_of_ble_eq_true rfl) (Nat.le_of_ble_eq_true rfl) (⟨rfl, (show (1 : Int32) = 0 ∨ (1 : Int32) = 1 from by first | exact Or.inl rfl | exact Or.inr rfl | exact z_or (by omega)), (show (1 : Int) = 1 → 33 ≤ p0.toInt from by first | with_reducible rfl | with_reducible assumption | omega)⟩) d_Exp_isPrefix_43
    · have nc2 : ¬ p0.toInt = (43 : Int) := mt (i_eq (x := p0) (y := 43)).mpr c2
      refine lv_iload_n S.x S.b d_Exp_isPrefix_12 rfl (lv_at hl 0 rfl) ?_
      refine lv_bipush (v := 33) S.x S.b d_Exp_isPrefix_13 (by decide) ?_
      refine lv_icmp_eq (tgt := 38) S.x S.b d_Exp_isPrefix_15 (by decide) (fun c3 => ?_) (fun c3 => ?_)
      · have nc3 : p0.toInt = (33 : Int) := (i_eq (x := p0) (y := 33)).mp c3
        refine lv_iconst (v := 1) S.x S.b d_Exp_isPrefix_38 (by decide) ?_
        refine lv_goto (tgt := 43) S.x S.b d_Exp_isPrefix_39 (by decide) ?_
        exact px_iret (v := 1) S hr rfl hlk hAe hw (Nat.le_of_ble_eq_true rfl) (Nat.le_of_ble_eq_true rfl) (⟨rfl, (show (1 : Int32) = 0 ∨ (1 : Int32) = 1 from by first | exact Or.inl rfl | exact Or.inr rfl | exact z_or (by omega)), (show (1 : Int) = 1 → 33 ≤ p0.toInt from by first | with_reducible rfl | with_reducible assumption | omega)⟩) d_Exp_isPrefix_43
      · have nc3 : ¬ p0.toInt = (33 : Int) := mt (i_eq (x := p0) (y := 33)).mpr c3
        refine lv_iload_n S.x S.b d_Exp_isPrefix_18 rfl (lv_at hl 0 rfl) ?_
        refine lv_bipush (v := 126) S.x S.b d_Exp_isPrefix_19 (by decide) ?_
        refine lv_icmp_eq (tgt := 38) S.x S.b d_Exp_isPrefix_21 (by decide) (fun c4 => ?_) (fun c4 => ?_)
        · have nc4 : p0.toInt = (126 : Int) := (i_eq (x := p0) (y := 126)).mp c4
          refine lv_iconst (v := 1) S.x S.b d_Exp_isPrefix_38 (by decide) ?_
          refine lv_goto (tgt := 43) S.x S.b d_Exp_isPrefix_39 (by decide) ?_
          exact px_iret (v := 1) S hr rfl hlk hAe hw (Nat.le_of_ble_eq_true rfl) (Nat.le_of_ble_eq_true rfl) (⟨rfl, (show (1 : Int32) = 0 ∨ (1 : Int32) = 1 from by first | exact Or.inl rfl | exact Or.inr rfl | exact z_or (by omega)), (show (1 : Int) = 1 → 33 ≤ p0.toInt from by first | with_reducible rfl | with_reducible assumption | omega)⟩) d_Exp_isPrefix_43
        · have nc4 : ¬ p0.toInt = (126 : Int) := mt (i_eq (x := p0) (y := 126)).mpr c4
          refine lv_iload_n S.x S.b d_Exp_isPrefix_24 rfl (lv_at hl 0 rfl) ?_
          refine lv_sipush (v := 138) S.x S.b d_Exp_isPrefix_25 (by decide) ?_
          refine lv_icmp_eq (tgt := 38) S.x S.b d_Exp_isPrefix_28 (by decide) (fun c5 => ?_) (fun c5 => ?_)
          · have nc5 : p0.toInt = (138 : Int) := (i_eq (x := p0) (y := 138)).mp c5
            refine lv_iconst (v := 1) S.x S.b d_Exp_isPrefix_38 (by decide) ?_
            refine lv_goto (tgt := 43) S.x S.b d_Exp_isPrefix_39 (by decide) ?_
            exact px_iret (v := 1) S hr rfl hlk hAe hw (Nat.le_of_ble_eq_true rfl) (Nat.le_of_ble_eq_true rfl) (⟨rfl, (show (1 : Int32) = 0 ∨ (1 : Int32) = 1 from by first | exact Or.inl rfl | exact Or.inr rfl | exact z_or (by omega)), (show (1 : Int) = 1 → 33 ≤ p0.toInt from by first | with_reducible rfl | with_reducible assumption | omega)⟩) d_Exp_isPrefix_43
          · have nc5 : ¬ p0.toInt = (138 : Int) := mt (i_eq (x := p0) (y := 138)).mpr c5
            refine lv_iload_n S.x S.b d_Exp_isPrefix_31 rfl (lv_at hl 0 rfl) ?_
            refine lv_sipush (v := 139) S.x S.b d_Exp_isPrefix_32 (by decide) ?_
            refine lv_icmp_ne (tgt := 42) S.x S.b d_Exp_isPrefix_35 (by decide) (fun c6 => ?_) (fun c6 => ?_)
            · have nc6 : ¬ p0.toInt = (139 : Int) := mt (i_eq (x := p0) (y := 139)).mpr c6
              refine lv_iconst (v := 0) S.x S.b d_Exp_isPrefix_42 (by decide) ?_
              exact px_iret (v := 0) S hr rfl hlk hAe hw (Nat.le_of_ble_eq_true rfl) (Nat.le_of_ble_eq_true rfl) (⟨rfl, (show (0 : Int32) = 0 ∨ (0 : Int32) = 1 from by first | exact Or.inl rfl | exact Or.inr rfl | exact z_or (by omega)), (show (0 : Int) = 1 → 33 ≤ p0.toInt from by first | with_reducible rfl | with_reducible assumption | omega)⟩) d_Exp_isPrefix_43
            · have nc6 : p0.toInt = (139 : Int) := (i_eq (x := p0) (y := 139)).mp c6
              refine lv_iconst (v := 1) S.x S.b d_Exp_isPrefix_38 (by decide) ?_
              refine lv_goto (tgt := 43) S.x S.b d_Exp_isPrefix_39 (by decide) ?_
              exact px_iret (v := 1) S hr rfl hlk hAe hw (Nat.le_of_ble_eq_true rfl) (Nat.le_of_ble_eq_true rfl) (⟨rfl, (show (1 : Int32) = 0 ∨ (1 : Int32) = 1 from by first | exact Or.inl rfl | exact Or.inr rfl | exact z_or (by omega)), (show (1 : Int) = 1 → 33 ≤ p0.toInt from by first | with_reducible rfl | with_reducible assumption | omega)⟩) d_Exp_isPrefix_43
abbrev b_Exp_number : ByteArray := prog_3_method_5_code
def y_Exp_number : MethodName := ⟨"HomeSystem$Expressions", "number", "(LHomeSystem$Operand;)V"⟩
theorem d_Exp_number_0 : decode b_Exp_number 0 = .ok (.aload_n 1, 1) := by decide +kernel
theorem d_Exp_number_1 : decode b_Exp_number 1 = .ok (.getfield 79, 3) := by decide +kernel
theorem d_Exp_number_4 : decode b_Exp_number 4 = .ok (.iconst 2, 1) := by decide +kernel
theorem d_Exp_number_5 : decode b_Exp_number 5 = .ok (.if_icmp .ne 18, 3) := by decide +kernel
theorem d_Exp_number_8 : decode b_Exp_number 8 = .ok (.aload_n 0, 1) := by decide +kernel
theorem d_Exp_number_9 : decode b_Exp_number 9 = .ok (.getfield 9, 3) := by decide +kernel
theorem d_Exp_number_12 : decode b_Exp_number 12 = .ok (.iconst 3, 1) := by decide +kernel
theorem d_Exp_number_13 : decode b_Exp_number 13 = .ok (.aload_n 1, 1) := by decide +kernel
theorem d_Exp_number_14 : decode b_Exp_number 14 = .ok (.getfield 82, 3) := by decide +kernel
theorem d_Exp_number_17 : decode b_Exp_number 17 = .ok (.invokevirtual 85, 3) := by decide +kernel
theorem d_Exp_number_20 : decode b_Exp_number 20 = .ok (.goto 71, 3) := by decide +kernel
theorem d_Exp_number_23 : decode b_Exp_number 23 = .ok (.aload_n 1, 1) := by decide +kernel
theorem d_Exp_number_24 : decode b_Exp_number 24 = .ok (.getfield 79, 3) := by decide +kernel
theorem d_Exp_number_27 : decode b_Exp_number 27 = .ok (.iconst 3, 1) := by decide +kernel
theorem d_Exp_number_28 : decode b_Exp_number 28 = .ok (.if_icmp .ne 18, 3) := by decide +kernel
theorem d_Exp_number_31 : decode b_Exp_number 31 = .ok (.aload_n 0, 1) := by decide +kernel
theorem d_Exp_number_32 : decode b_Exp_number 32 = .ok (.getfield 9, 3) := by decide +kernel
theorem d_Exp_number_35 : decode b_Exp_number 35 = .ok (.iconst 5, 1) := by decide +kernel
theorem d_Exp_number_36 : decode b_Exp_number 36 = .ok (.aload_n 1, 1) := by decide +kernel
theorem d_Exp_number_37 : decode b_Exp_number 37 = .ok (.getfield 88, 3) := by decide +kernel
theorem d_Exp_number_40 : decode b_Exp_number 40 = .ok (.invokevirtual 85, 3) := by decide +kernel
theorem d_Exp_number_43 : decode b_Exp_number 43 = .ok (.goto 48, 3) := by decide +kernel
theorem d_Exp_number_46 : decode b_Exp_number 46 = .ok (.aload_n 1, 1) := by decide +kernel
theorem d_Exp_number_47 : decode b_Exp_number 47 = .ok (.getfield 79, 3) := by decide +kernel
theorem d_Exp_number_50 : decode b_Exp_number 50 = .ok (.iconst 1, 1) := by decide +kernel
theorem d_Exp_number_51 : decode b_Exp_number 51 = .ok (.if_icmp .ne 40, 3) := by decide +kernel
theorem d_Exp_number_54 : decode b_Exp_number 54 = .ok (.aload_n 1, 1) := by decide +kernel
theorem d_Exp_number_55 : decode b_Exp_number 55 = .ok (.getfield 91, 3) := by decide +kernel
theorem d_Exp_number_58 : decode b_Exp_number 58 = .ok (.ifnull 33, 3) := by decide +kernel
theorem d_Exp_number_61 : decode b_Exp_number 61 = .ok (.aload_n 0, 1) := by decide +kernel
theorem d_Exp_number_62 : decode b_Exp_number 62 = .ok (.getfield 19, 3) := by decide +kernel
theorem d_Exp_number_65 : decode b_Exp_number 65 = .ok (.iconst 2, 1) := by decide +kernel
theorem d_Exp_number_66 : decode b_Exp_number 66 = .ok (.aload_n 1, 1) := by decide +kernel
theorem d_Exp_number_67 : decode b_Exp_number 67 = .ok (.getfield 91, 3) := by decide +kernel
theorem d_Exp_number_70 : decode b_Exp_number 70 = .ok (.getfield 95, 3) := by decide +kernel
theorem d_Exp_number_73 : decode b_Exp_number 73 = .ok (.aload_n 1, 1) := by decide +kernel
theorem d_Exp_number_74 : decode b_Exp_number 74 = .ok (.getfield 91, 3) := by decide +kernel
theorem d_Exp_number_77 : decode b_Exp_number 77 = .ok (.getfield 100, 3) := by decide +kernel
theorem d_Exp_number_80 : decode b_Exp_number 80 = .ok (.aload_n 1, 1) := by decide +kernel
theorem d_Exp_number_81 : decode b_Exp_number 81 = .ok (.getfield 91, 3) := by decide +kernel
theorem d_Exp_number_84 : decode b_Exp_number 84 = .ok (.getfield 103, 3) := by decide +kernel
theorem d_Exp_number_87 : decode b_Exp_number 87 = .ok (.invokevirtual 106, 3) := by decide +kernel
theorem d_Exp_number_90 : decode b_Exp_number 90 = .ok (.pop, 1) := by decide +kernel
theorem d_Exp_number_91 : decode b_Exp_number 91 = .ok (.aload_n 1, 1) := by decide +kernel
theorem d_Exp_number_92 : decode b_Exp_number 92 = .ok (.iconst 0, 1) := by decide +kernel
theorem d_Exp_number_93 : decode b_Exp_number 93 = .ok (.putfield 79, 3) := by decide +kernel
theorem d_Exp_number_96 : decode b_Exp_number 96 = .ok (.return_, 1) := by decide +kernel
theorem q_Exp_number : px_y y_Exp_number 1 := by unfold px_y; decide +kernel
set_option maxHeartbeats 4000000 in
set_option maxRecDepth 100000 in
theorem c_ex_number (l : Launch) (D : va_G) (cs : Nat → ClassId) (he : Nat) (re : Nat → Nat) (eo : Nat → Option Nat) (ef : Nat → Int32) (ea : Nat → Nat → Int32) (eg : Nat → Nat → Option Nat) (rt : Nat → Nat) (ot : Nat → Option Nat) (ta : Nat → Nat → Int32) (tg : Nat → Nat → Option Nat) (tf : Nat → Int32) (rp : Nat → Nat) (of : Option Nat) (cn : Nat) (fp : Nat → Int32) (cd : Nat → Int32) (P : va_W) (hx : Nat) (ox : Option Nat) (fx : Nat → Int32)  (hinv0 : CurOk (tf 10) (tf 13) (tf 14) (tf 15) (tf 17) (ta 0)) (g0 : cn % 4 = 0) (g1 : cn ≤ 100000) (g2 : 0 ≤ (fx 0).toInt) (g3 : 0 ≤ (fx 3).toInt) (hpk : Pok cn (fp 3) cd) (hsx : Sy P ox) : MetV l y_Exp_number b_Exp_number 2 D cs 1 40 (0) (0) [.ref he, .ref hx] [wd_Exp cs he re eo ef ea eg, wd_Tok cs (re 0) rt ot tf ta tg, wd_Prg cs (re 2) rp (fun k => if k = 2 then of else none) fp (fun _ _ => 0) (fun _ _ => none), [((rp 1), .inl (cs 0, cn, .inl cd))], P, wd_Opd cs hx (fun _ => 0) (fun k => if k = 4 then ox else none) fx (fun _ _ => 0) (fun _ _ => none)] (fun _ => True) (fun ps => ∃ (tf' : Nat → Int32) (fp' : Nat → Int32) (cd' : Nat → Int32) (fx' : Nat → Int32), (ps = [wd_Exp cs he re eo ef ea eg, wd_Tok cs (re 0) rt ot tf' ta tg, wd_Prg cs (re 2) rp (fun k => if k = 2 then of else none) fp' (fun _ _ => 0) (fun _ _ => none), [((rp 1), .inl (cs 0, cn, .inl cd'))], P, wd_Opd cs hx (fun _ => 0) (fun k => if k = 4 then ox else none) fx' (fun _ _ => 0) (fun _ _ => none)]) ∧ (CurOk (tf' 10) (tf' 13) (tf' 14) (tf' 15) (tf' 17) (ta 0)) ∧ ((tf' 10).toInt = (tf 10).toInt) ∧ ((tf' 13).toInt = (tf 13).toInt) ∧ ((tf' 14).toInt = (tf 14).toInt) ∧ ((tf' 15).toInt = (tf 15).toInt) ∧ ((fx' 0).toInt = (fx 0).toInt) ∧ ((fx' 3).toInt = (fx 3).toInt) ∧ ((fx' 5).toInt = (fx 5).toInt) ∧ (Prel cn (fp 3) cd (fp' 3) cd') ∧ ((fp' 3).toInt ≤ (fp 3).toInt + 4)) := by
  refine px_enter (by decide) (Nat.le_of_ble_eq_true rfl) ?_
  intro p e s m below meth c A ls hAe S hr hlk hnm hA hT hX hw hl
  replace hl : lv_has ls 2 [(0, .ref he), (1, .ref hx)] := hl
  have cst0 : (0 : Int32).toInt = 0 := rfl
  have cst1 : (1 : Int32).toInt = 1 := rfl
  have cst2 : (2 : Int32).toInt = 2 := rfl
  have cst3 : (3 : Int32).toInt = 3 := rfl
  have cst5 : (5 : Int32).toInt = 5 := rfl
  obtain ⟨⟨o1, o2⟩, ⟨o3, o4⟩, ⟨o5, o6⟩, o7, o8, hlast⟩ := hinv0
  have hrel := Prel.rf hpk
  have pz0 := hrel.nm
  refine lv_aload_n S.x S.b d_Exp_number_0 rfl (lv_at hl 1 rfl) ?_
  refine px_get S k_Opd hT hw 5 0 1 (v := .int (fx 1)) rfl rfl rfl (by decide) m4_221 d_Exp_number_1 ?_
  refine lv_iconst (v := 2) S.x S.b d_Exp_number_4 (by decide) ?_
  refine lv_icmp_ne (tgt := 23) S.x S.b d_Exp_number_5 (by decide) (fun c1 => ?_) (fun c1 => ?_)
  · have nc1 : ¬ (fx 1).toInt = (2 : Int) := mt (i_eq (x := (fx 1)) (y := 2)).mpr c1
    refine lv_aload_n S.x S.b d_Exp_number_23 rfl (lv_at hl 1 rfl) ?_
    refine px_get S k_Opd hT hw 5 0 1 (v := .int (fx 1)) rfl rfl rfl (by decide) m4_221 d_Exp_number_24 ?_
    refine lv_iconst (v := 3) S.x S.b d_Exp_number_27 (by decide) ?_
    refine lv_icmp_ne (tgt := 46) S.x S.b d_Exp_number_28 (by decide) (fun c2 => ?_) (fun c2 => ?_)
    · have nc2 : ¬ (fx 1).toInt = (3 : Int) := mt (i_eq (x := (fx 1)) (y := 3)).mpr c2
      refine lv_aload_n S.x S.b d_Exp_number_46 rfl (lv_at hl 1 rfl) ?_
      refine px_get S k_Opd hT hw 5 0 1 (v := .int (fx 1)) rfl rfl rfl (by decide) m4_221 d_Exp_number_47 ?_
      refine lv_iconst (v := 1) S.x S.b d_Exp_number_50 (by decide) ?_
      refine lv_icmp_ne (tgt := 91) S.x S.b d_Exp_number_51 (by decide) (fun c3 => ?_) (fun c3 => ?_)
      · have nc3 : ¬ (fx 1).toInt = (1 : Int) := mt (i_eq (x := (fx 1)) (y := 1)).mpr c3
        refine lv_aload_n S.x S.b d_Exp_number_91 rfl (lv_at hl 1 rfl) ?_
        refine lv_iconst (v := 0) S.x S.b d_Exp_number_92 (by decide) ?_
        refine px_put S k_Opd hT hw 5 0 1 rfl rfl (by decide) m4_221 rfl rfl rfl (Nat.le_of_ble_eq_true rfl) d_Exp_number_93 (w' := wd_Opd cs hx (fun _ => 0) (fun k => if k = 4 then ox else none) (upd fx 1 0) (fun _ _ => 0) (fun _ _ => none)) (ps' := [wd_Exp cs he re eo ef ea eg, wd_Tok cs (re 0) rt ot tf ta tg, wd_Prg cs (re 2) rp (fun k => if k = 2 then of else none) fp (fun _ _ => 0) (fun _ _ => none), [((rp 1), .inl (cs 0, cn, .inl cd))], P, wd_Opd cs hx (fun _ => 0) (fun k => if k = 4 then ox else none) (upd fx 1 0) (fun _ _ => 0) (fun _ _ => none)]) rfl rfl (fun H locs hw => ?_)
        exact px_vret S hr hlk hAe hw (Nat.le_of_ble_eq_true rfl) (Nat.le_of_ble_eq_true rfl) (⟨tf, fp, cd, (upd fx 1 0), rfl, (show CurOk (tf 10) (tf 13) (tf 14) (tf 15) (tf 17) (ta 0) from ⟨⟨by first | exact o1 | omega, by first | exact o2 | omega⟩, ⟨by first | exact o3 | omega, by first | exact o4 | omega⟩, ⟨by first | exact o5 | omega, by first | exact o6 | omega⟩, by first | exact o7 | omega, by omega, last_eq hlast (rfl)⟩), (show (tf 10).toInt = (tf 10).toInt from rfl), (show (tf 13).toInt = (tf 13).toInt from rfl), (show (tf 14).toInt = (tf 14).toInt from rfl), (show (tf 15).toInt = (tf 15).toInt from rfl), (show (fx 0).toInt = (fx 0).toInt from rfl), (show (fx 3).toInt = (fx 3).toInt from rfl), (show (fx 5).toInt = (fx 5).toInt from rfl), (show Prel cn (fp 3) cd (fp 3) cd from hrel), (show (fp 3).toInt ≤ (fp 3).toInt + 4 from by first | exact oz_4550f3b49c | omega)⟩) d_Exp_number_96
      · have nc3 : (fx 1).toInt = (1 : Int) := (i_eq (x := (fx 1)) (y := 1)).mp c3
        refine lv_aload_n S.x S.b d_Exp_number_54 rfl (lv_at hl 1 rfl) ?_
        refine px_get S k_Opd hT hw 5 0 4 (v := va_rf ox) rfl rfl rfl (by decide) m4_226 d_Exp_number_55 ?_
        refine lq_ifnull (x := ox) (tgt := 91) S.x S.b d_Exp_number_58 (by decide) (fun c4 => ?_) (fun q5 c4 => ?_)
        ·
          subst c4
          refine lv_aload_n S.x S.b d_Exp_number_91 rfl (lv_at hl 1 rfl) ?_
          refine lv_iconst (v := 0) S.x S.b d_Exp_number_92 (by decide) ?_
          refine px_put S k_Opd hT hw 5 0 1 rfl rfl (by decide) m4_221 rfl rfl rfl (Nat.le_of_ble_eq_true rfl) d_Exp_number_93 (w' := wd_Opd cs hx (fun _ => 0) (fun k => if k = 4 then none else none) (upd fx 1 0) (fun _ _ => 0) (fun _ _ => none)) (ps' := [wd_Exp cs he re eo ef ea eg, wd_Tok cs (re 0) rt ot tf ta tg, wd_Prg cs (re 2) rp (fun k => if k = 2 then of else none) fp (fun _ _ => 0) (fun _ _ => none), [((rp 1), .inl (cs 0, cn, .inl cd))], P, wd_Opd cs hx (fun _ => 0) (fun k => if k = 4 then none else none) (upd fx 1 0) (fun _ _ => 0) (fun _ _ => none)]) rfl rfl (fun H locs hw => ?_)
          exact px_vret S hr hlk hAe hw (Nat.le_of_ble_eq_true rfl) (Nat.le_of_ble_eq_true rfl) (⟨tf, fp, cd, (upd fx 1 0), rfl, (show CurOk (tf 10) (tf 13) (tf 14) (tf 15) (tf 17) (ta 0) from ⟨⟨by first | exact o1 | omega, by first | exact o2 | omega⟩, ⟨by first | exact o3 | omega, by first | exact o4 | omega⟩, ⟨by first | exact o5 | omega, by first | exact o6 | omega⟩, by first | exact o7 | omega, by omega, last_eq hlast (rfl)⟩), (show (tf 10).toInt = (tf 10).toInt from rfl), (show (tf 13).toInt = (tf 13).toInt from rfl), (show (tf 14).toInt = (tf 14).toInt from rfl), (show (tf 15).toInt = (tf 15).toInt from rfl), (show (fx 0).toInt = (fx 0).toInt from rfl), (show (fx 3).toInt = (fx 3).toInt from rfl), (show (fx 5).toInt = (fx 5).toInt from rfl), (show Prel cn (fp 3) cd (fp 3) cd from hrel), (show (fp 3).toInt ≤ (fp 3).toInt + 4 from by first | exact oz_4550f3b49c | omega)⟩) d_Exp_number_96
        ·
          subst c4
          refine lv_aload_n S.x S.b d_Exp_number_61 rfl (lv_at hl 0 rfl) ?_
          refine px_get S k_Exp hT hw 0 0 2 (v := .ref (re 2)) rfl rfl rfl (by decide) m2_133 d_Exp_number_62 ?_
          refine lv_iconst (v := 2) S.x S.b d_Exp_number_65 (by decide) ?_
          refine lv_aload_n S.x S.b d_Exp_number_66 rfl (lv_at hl 1 rfl) ?_
          refine px_get S k_Opd hT hw 5 0 4 (v := .ref q5) rfl rfl rfl (by decide) m4_226 d_Exp_number_67 ?_
          obtain ⟨j6, s7, hj8⟩ := (show Sy P (some q5) by first | assumption | exact Fy.sy (by assumption)).at
          refine px_get S k_Sym hT hw 4 j6 2 (v := .int (s7 2)) rfl hj8 rfl (by decide) m1_213 d_Exp_number_70 ?_
          refine lv_aload_n S.x S.b d_Exp_number_73 rfl (lv_at hl 1 rfl) ?_
          refine px_get S k_Opd hT hw 5 0 4 (v := .ref q5) rfl rfl rfl (by decide) m4_226 d_Exp_number_74 ?_
          refine px_get S k_Sym hT hw 4 j6 3 (v := .int (s7 3)) rfl hj8 rfl (by decide) m1_216 d_Exp_number_77 ?_
          refine lv_aload_n S.x S.b d_Exp_number_80 rfl (lv_at hl 1 rfl) ?_
          refine px_get S k_Opd hT hw 5 0 4 (v := .ref q5) rfl rfl rfl (by decide) m4_226 d_Exp_number_81 ?_
          refine px_get S k_Sym hT hw 4 j6 4 (v := .int (s7 4)) rfl hj8 rfl (by decide) m1_219 d_Exp_number_84 ?_
          have hw : pw D A s.heap _ _ [wd_Exp cs he re eo ef ea eg, wd_Tok cs (re 0) rt ot tf ta tg, P, wd_Opd cs hx (fun _ => 0) (fun k => if k = 4 then (some q5) else none) fx (fun _ _ => 0) (fun _ _ => none), wd_Prg cs (re 2) rp (fun k => if k = 2 then of else none) fp (fun _ _ => 0) (fun _ _ => none), [((rp 1), .inl (cs 0, cn, .inl cd))]] := hw.sub [0, 1, 4, 5, 2, 3] rfl rfl
          refine px_calli (pr := [wd_Exp cs he re eo ef ea eg, wd_Tok cs (re 0) rt ot tf ta tg, P, wd_Opd cs hx (fun _ => 0) (fun k => if k = 4 then (some q5) else none) fx (fun _ _ => 0) (fun _ _ => none)]) (px_runV (As := [.int 2, .int (s7 2), .int (s7 3), .int (s7 4)]) (rest := []) S (c_pe_emit l D cs (re 2) rp of cn fp cd 2 (s7 2) (s7 3) (s7 4)  (show cn % 4 = 0 from by first | exact g0 | omega) (show cn ≤ 100000 from by first | exact g1 | omega) hrel.1 (jop_low (by decide)) _) hT (pr := [wd_Exp cs he re eo ef ea eg, wd_Tok cs (re 0) rt ot tf ta tg, P, wd_Opd cs hx (fun _ => 0) (fun k => if k = 4 then (some q5) else none) fx (fun _ _ => 0) (fun _ _ => none)]) (pcs := [wd_Prg cs (re 2) rp (fun k => if k = 2 then of else none) fp (fun _ _ => 0) (fun _ _ => none), [((rp 1), .inl (cs 0, cn, .inl cd))]]) hw px_X.tt (px_recv hT hw 4 0 rfl rfl rfl) m4_181 m4_178 m4_179 m4_180 m1_16 q_Prg_emit ⟨Nat.le_of_ble_eq_true rfl, Nat.le_of_ble_eq_true rfl⟩ hl.1 rfl (Nat.le_of_ble_eq_true rfl) d_Exp_number_87 ⟨Nat.le_of_ble_eq_true rfl, Nat.le_of_ble_eq_true rfl⟩) hw hA (fun v14 p13 H locs hp13 hw => ?_)
          obtain ⟨fp11, cd12, rfl, hv_v14, hem, hwx, hsz, k0fp11, k4fp11, k5fp11⟩ := hp13
          have tv_v14 : v14.toInt = (fp 3).toInt := by rw [hv_v14]
          have hrel := hrel.tr hem
          have pz15 := hrel.nm
          have hsl_fp11 : (fp11 3).toInt ≤ (fp 3).toInt + 4 := by omega
          clear hsz
          replace hw : pw D A s.heap H locs [wd_Exp cs he re eo ef ea eg, wd_Tok cs (re 0) rt ot tf ta tg, P, wd_Opd cs hx (fun _ => 0) (fun k => if k = 4 then (some q5) else none) fx (fun _ _ => 0) (fun _ _ => none), wd_Prg cs (re 2) rp (fun k => if k = 2 then of else none) fp11 (fun _ _ => 0) (fun _ _ => none), [((rp 1), .inl (cs 0, cn, .inl cd12))]] := hw
          have lv14 := Int32.le_toInt v14
          have uv14 := Int32.toInt_lt v14
          refine lv_pop S.x S.b d_Exp_number_90 rfl ?_
          refine lv_aload_n S.x S.b d_Exp_number_91 rfl (lv_at hl 1 rfl) ?_
          refine lv_iconst (v := 0) S.x S.b d_Exp_number_92 (by decide) ?_
          refine px_put S k_Opd hT hw 3 0 1 rfl rfl (by decide) m4_221 rfl rfl rfl (Nat.le_of_ble_eq_true rfl) d_Exp_number_93 (w' := wd_Opd cs hx (fun _ => 0) (fun k => if k = 4 then (some q5) else none) (upd fx 1 0) (fun _ _ => 0) (fun _ _ => none)) (ps' := [wd_Exp cs he re eo ef ea eg, wd_Tok cs (re 0) rt ot tf ta tg, P, wd_Opd cs hx (fun _ => 0) (fun k => if k = 4 then (some q5) else none) (upd fx 1 0) (fun _ _ => 0) (fun _ _ => none), wd_Prg cs (re 2) rp (fun k => if k = 2 then of else none) fp11 (fun _ _ => 0) (fun _ _ => none), [((rp 1), .inl (cs 0, cn, .inl cd12))]]) rfl rfl (fun H locs hw => ?_)
          have hw : pw D A s.heap _ _ [wd_Exp cs he re eo ef ea eg, wd_Tok cs (re 0) rt ot tf ta tg, wd_Prg cs (re 2) rp (fun k => if k = 2 then of else none) fp11 (fun _ _ => 0) (fun _ _ => none), [((rp 1), .inl (cs 0, cn, .inl cd12))], P, wd_Opd cs hx (fun _ => 0) (fun k => if k = 4 then (some q5) else none) (upd fx 1 0) (fun _ _ => 0) (fun _ _ => none)] := hw.sub [0, 1, 4, 5, 2, 3] rfl rfl
          exact px_vret S hr hlk hAe hw (Nat.le_of_ble_eq_true rfl) (Nat.le_of_ble_eq_true rfl) (⟨tf, fp11, cd12, (upd fx 1 0), rfl, (show CurOk (tf 10) (tf 13) (tf 14) (tf 15) (tf 17) (ta 0) from ⟨⟨by first | exact o1 | omega, by first | exact o2 | omega⟩, ⟨by first | exact o3 | omega, by first | exact o4 | omega⟩, ⟨by first | exact o5 | omega, by first | exact o6 | omega⟩, by first | exact o7 | omega, by omega, last_eq hlast (rfl)⟩), (show (tf 10).toInt = (tf 10).toInt from rfl), (show (tf 13).toInt = (tf 13).toInt from rfl), (show (tf 14).toInt = (tf 14).toInt from rfl), (show (tf 15).toInt = (tf 15).toInt from rfl), (show (fx 0).toInt = (fx 0).toInt from rfl), (show (fx 3).toInt = (fx 3).toInt from rfl), (show (fx 5).toInt = (fx 5).toInt from rfl), (show Prel cn (fp 3) cd (fp11 3) cd12 from hrel), (show (fp11 3).toInt ≤ (fp 3).toInt + 4 from by first | exact hsl_fp11 | omega)⟩) d_Exp_number_96
    · have nc2 : (fx 1).toInt = (3 : Int) := (i_eq (x := (fx 1)) (y := 3)).mp c2
      refine lv_aload_n S.x S.b d_Exp_number_31 rfl (lv_at hl 0 rfl) ?_
      refine px_get S k_Exp hT hw 0 0 0 (v := .ref (re 0)) rfl rfl rfl (by decide) m2_131 d_Exp_number_32 ?_
      refine lv_iconst (v := 5) S.x S.b d_Exp_number_35 (by decide) ?_
      refine lv_aload_n S.x S.b d_Exp_number_36 rfl (lv_at hl 1 rfl) ?_
      refine px_get S k_Opd hT hw 5 0 3 (v := .int (fx 3)) rfl rfl rfl (by decide) m4_225 d_Exp_number_37 ?_
      have hw : pw D A s.heap _ _ [wd_Exp cs he re eo ef ea eg, wd_Prg cs (re 2) rp (fun k => if k = 2 then of else none) fp (fun _ _ => 0) (fun _ _ => none), [((rp 1), .inl (cs 0, cn, .inl cd))], P, wd_Opd cs hx (fun _ => 0) (fun k => if k = 4 then ox else none) fx (fun _ _ => 0) (fun _ _ => none), wd_Tok cs (re 0) rt ot tf ta tg] := hw.sub [0, 2, 3, 4, 5, 1] rfl rfl
      refine px_callv (pr := [wd_Exp cs he re eo ef ea eg, wd_Prg cs (re 2) rp (fun k => if k = 2 then of else none) fp (fun _ _ => 0) (fun _ _ => none), [((rp 1), .inl (cs 0, cn, .inl cd))], P, wd_Opd cs hx (fun _ => 0) (fun k => if k = 4 then ox else none) fx (fun _ _ => 0) (fun _ _ => none)]) (px_runV (As := [.int 5, .int (fx 3)]) (rest := []) S (c_tk_blame l D cs (re 0) rt ot ta tg tf 5 (fx 3)  (show CurOk (tf 10) (tf 13) (tf 14) (tf 15) (tf 17) (ta 0) from ⟨⟨by first | exact o1 | omega, by first | exact o2 | omega⟩, ⟨by first | exact o3 | omega, by first | exact o4 | omega⟩, ⟨by first | exact o5 | omega, by first | exact o6 | omega⟩, by first | exact o7 | omega, by omega, last_eq hlast (rfl)⟩) (show 0 ≤ (fx 3).toInt from by first | exact g3 | omega) _) hT (pr := [wd_Exp cs he re eo ef ea eg, wd_Prg cs (re 2) rp (fun k => if k = 2 then of else none) fp (fun _ _ => 0) (fun _ _ => none), [((rp 1), .inl (cs 0, cn, .inl cd))], P, wd_Opd cs hx (fun _ => 0) (fun k => if k = 4 then ox else none) fx (fun _ _ => 0) (fun _ _ => none)]) (pcs := [wd_Tok cs (re 0) rt ot tf ta tg]) hw px_X.tt (px_recv hT hw 5 0 rfl rfl rfl) m4_173 m4_170 m4_171 m4_172 m1_2 q_Tok_blame ⟨Nat.le_of_ble_eq_true rfl, Nat.le_of_ble_eq_true rfl⟩ hl.1 rfl (Nat.le_of_ble_eq_true rfl) d_Exp_number_40 ⟨Nat.le_of_ble_eq_true rfl, Nat.le_of_ble_eq_true rfl⟩) hw hA (fun p17 H locs hp17 hw => ?_)
      obtain ⟨tf16, rfl, h23, e19, e20, e21, e22⟩ := hp17
      obtain ⟨⟨o1, o2⟩, ⟨o3, o4⟩, ⟨o5, o6⟩, o7, o8, hlast⟩ := h23
      replace e19 : (tf16 10).toInt = (tf 10).toInt := e19
      replace e20 : (tf16 14).toInt = (tf 14).toInt := e20
      replace e21 : (tf16 15).toInt = (tf 15).toInt := e21
      replace e22 : (tf16 13).toInt = (tf 13).toInt := e22
      replace hw : pw D A s.heap H locs [wd_Exp cs he re eo ef ea eg, wd_Prg cs (re 2) rp (fun k => if k = 2 then of else none) fp (fun _ _ => 0) (fun _ _ => none), [((rp 1), .inl (cs 0, cn, .inl cd))], P, wd_Opd cs hx (fun _ => 0) (fun k => if k = 4 then ox else none) fx (fun _ _ => 0) (fun _ _ => none), wd_Tok cs (re 0) rt ot tf16 ta tg] := hw
      refine lv_goto (tgt := 91) S.x S.b d_Exp_number_43 (by decide) ?_
      refine lv_aload_n S.x S.b d_Exp_number_91 rfl (lv_at hl 1 rfl) ?_
      refine lv_iconst (v := 0) S.x S.b d_Exp_number_92 (by decide) ?_
      refine px_put S k_Opd hT hw 4 0 1 rfl rfl (by decide) m4_221 rfl rfl rfl (Nat.le_of_ble_eq_true rfl) d_Exp_number_93 (w' := wd_Opd cs hx (fun _ => 0) (fun k => if k = 4 then ox else none) (upd fx 1 0) (fun _ _ => 0) (fun _ _ => none)) (ps' := [wd_Exp cs he re eo ef ea eg, wd_Prg cs (re 2) rp (fun k => if k = 2 then of else none) fp (fun _ _ => 0) (fun _ _ => none), [((rp 1), .inl (cs 0, cn, .inl cd))], P, wd_Opd cs hx (fun _ => 0) (fun k => if k = 4 then ox else none) (upd fx 1 0) (fun _ _ => 0) (fun _ _ => none), wd_Tok cs (re 0) rt ot tf16 ta tg]) rfl rfl (fun H locs hw => ?_)
      have hw : pw D A s.heap _ _ [wd_Exp cs he re eo ef ea eg, wd_Tok cs (re 0) rt ot tf16 ta tg, wd_Prg cs (re 2) rp (fun k => if k = 2 then of else none) fp (fun _ _ => 0) (fun _ _ => none), [((rp 1), .inl (cs 0, cn, .inl cd))], P, wd_Opd cs hx (fun _ => 0) (fun k => if k = 4 then ox else none) (upd fx 1 0) (fun _ _ => 0) (fun _ _ => none)] := hw.sub [0, 5, 1, 2, 3, 4] rfl rfl
      exact px_vret S hr hlk hAe hw (Nat.le_of_ble_eq_true rfl) (Nat.le_of_ble_eq_true rfl) (⟨tf16, fp, cd, (upd fx 1 0), rfl, (show CurOk (tf16 10) (tf16 13) (tf16 14) (tf16 15) (tf16 17) (ta 0) from ⟨⟨by first | exact o1 | omega, by first | exact o2 | omega⟩, ⟨by first | exact o3 | omega, by first | exact o4 | omega⟩, ⟨by first | exact o5 | omega, by first | exact o6 | omega⟩, by first | exact o7 | omega, by omega, last_eq hlast (rfl)⟩), (show (tf16 10).toInt = (tf 10).toInt from by first | exact e19 | omega), (show (tf16 13).toInt = (tf 13).toInt from by first | exact e22 | omega), (show (tf16 14).toInt = (tf 14).toInt from by first | exact e20 | omega), (show (tf16 15).toInt = (tf 15).toInt from by first | exact e21 | omega), (show (fx 0).toInt = (fx 0).toInt from rfl), (show (fx 3).toInt = (fx 3).toInt from rfl), (show (fx 5).toInt = (fx 5).toInt from rfl), (show Prel cn (fp 3) cd (fp 3) cd from hrel), (show (fp 3).toInt ≤ (fp 3).toInt + 4 from by first | exact oz_4550f3b49c | omega)⟩) d_Exp_number_96
  · have nc1 : (fx 1).toInt = (2 : Int) := (i_eq (x := (fx 1)) (y := 2)).mp c1
    refine lv_aload_n S.x S.b d_Exp_number_8 rfl (lv_at hl 0 rfl) ?_
    refine px_get S k_Exp hT hw 0 0 0 (v := .ref (re 0)) rfl rfl rfl (by decide) m2_131 d_Exp_number_9 ?_
    refine lv_iconst (v := 3) S.x S.b d_Exp_number_12 (by decide) ?_
    refine lv_aload_n S.x S.b d_Exp_number_13 rfl (lv_at hl 1 rfl) ?_
    refine px_get S k_Opd hT hw 5 0 0 (v := .int (fx 0)) rfl rfl rfl (by decide) m4_218 d_Exp_number_14 ?_
    have hw : pw D A s.heap _ _ [wd_Exp cs he re eo ef ea eg, wd_Prg cs (re 2) rp (fun k => if k = 2 then of else none) fp (fun _ _ => 0) (fun _ _ => none), [((rp 1), .inl (cs 0, cn, .inl cd))], P, wd_Opd cs hx (fun _ => 0) (fun k => if k = 4 then ox else none) fx (fun _ _ => 0) (fun _ _ => none), wd_Tok cs (re 0) rt ot tf ta tg] := hw.sub [0, 2, 3, 4, 5, 1] rfl rfl
    refine px_callv (pr := [wd_Exp cs he re eo ef ea eg, wd_Prg cs (re 2) rp (fun k => if k = 2 then of else none) fp (fun _ _ => 0) (fun _ _ => none), [((rp 1), .inl (cs 0, cn, .inl cd))], P, wd_Opd cs hx (fun _ => 0) (fun k => if k = 4 then ox else none) fx (fun _ _ => 0) (fun _ _ => none)]) (px_runV (As := [.int 3, .int (fx 0)]) (rest := []) S (c_tk_blame l D cs (re 0) rt ot ta tg tf 3 (fx 0)  (show CurOk (tf 10) (tf 13) (tf 14) (tf 15) (tf 17) (ta 0) from ⟨⟨by first | exact o1 | omega, by first | exact o2 | omega⟩, ⟨by first | exact o3 | omega, by first | exact o4 | omega⟩, ⟨by first | exact o5 | omega, by first | exact o6 | omega⟩, by first | exact o7 | omega, by omega, last_eq hlast (rfl)⟩) (show 0 ≤ (fx 0).toInt from by first | exact g2 | omega) _) hT (pr := [wd_Exp cs he re eo ef ea eg, wd_Prg cs (re 2) rp (fun k => if k = 2 then of else none) fp (fun _ _ => 0) (fun _ _ => none), [((rp 1), .inl (cs 0, cn, .inl cd))], P, wd_Opd cs hx (fun _ => 0) (fun k => if k = 4 then ox else none) fx (fun _ _ => 0) (fun _ _ => none)]) (pcs := [wd_Tok cs (re 0) rt ot tf ta tg]) hw px_X.tt (px_recv hT hw 5 0 rfl rfl rfl) m4_173 m4_170 m4_171 m4_172 m1_2 q_Tok_blame ⟨Nat.le_of_ble_eq_true rfl, Nat.le_of_ble_eq_true rfl⟩ hl.1 rfl (Nat.le_of_ble_eq_true rfl) d_Exp_number_17 ⟨Nat.le_of_ble_eq_true rfl, Nat.le_of_ble_eq_true rfl⟩) hw hA (fun p25 H locs hp25 hw => ?_)
    obtain ⟨tf24, rfl, h31, e27, e28, e29, e30⟩ := hp25
    obtain ⟨⟨o1, o2⟩, ⟨o3, o4⟩, ⟨o5, o6⟩, o7, o8, hlast⟩ := h31
    replace e27 : (tf24 10).toInt = (tf 10).toInt := e27
    replace e28 : (tf24 14).toInt = (tf 14).toInt := e28
    replace e29 : (tf24 15).toInt = (tf 15).toInt := e29
    replace e30 : (tf24 13).toInt = (tf 13).toInt := e30
    replace hw : pw D A s.heap H locs [wd_Exp cs he re eo ef ea eg, wd_Prg cs (re 2) rp (fun k => if k = 2 then of else none) fp (fun _ _ => 0) (fun _ _ => none), [((rp 1), .inl (cs 0, cn, .inl cd))], P, wd_Opd cs hx (fun _ => 0) (fun k => if k = 4 then ox else none) fx (fun _ _ => 0) (fun _ _ => none), wd_Tok cs (re 0) rt ot tf24 ta tg] := hw
    refine lv_goto (tgt := 91) S.x S.b d_Exp_number_20 (by decide) ?_
    refine lv_aload_n S.x S.b d_Exp_number_91 rfl (lv_at hl 1 rfl) ?_
    refine lv_iconst (v := 0) S.x S.b d_Exp_number_92 (by decide) ?_
    refine px_put S k_Opd hT hw 4 0 1 rfl rfl (by decide) m4_221 rfl rfl rfl (Nat.le_of_ble_eq_true rfl) d_Exp_number_93 (w' := wd_Opd cs hx (fun _ => 0) (fun k => if k = 4 then ox else none) (upd fx 1 0) (fun _ _ => 0) (fun _ _ => none)) (ps' := [wd_Exp cs he re eo ef ea eg, wd_Prg cs (re 2) rp (fun k => if k = 2 then of else none) fp (fun _ _ => 0) (fun _ _ => none), [((rp 1), .inl (cs 0, cn, .inl cd))], P, wd_Opd cs hx (fun _ => 0) (fun k => if k = 4 then ox else none) (upd fx 1 0) (fun _ _ => 0) (fun _ _ => none), wd_Tok cs (re 0) rt ot tf24 ta tg]) rfl rfl (fun H locs hw => ?_)
    have hw : pw D A s.heap _ _ [wd_Exp cs he re eo ef ea eg, wd_Tok cs (re 0) rt ot tf24 ta tg, wd_Prg cs (re 2) rp (fun k => if k = 2 then of else none) fp (fun _ _ => 0) (fun _ _ => none), [((rp 1), .inl (cs 0, cn, .inl cd))], P, wd_Opd cs hx (fun _ => 0) (fun k => if k = 4 then ox else none) (upd fx 1 0) (fun _ _ => 0) (fun _ _ => none)] := hw.sub [0, 5, 1, 2, 3, 4] rfl rfl
    exact px_vret S hr hlk hAe hw (Nat.le_of_ble_eq_true rfl) (Nat.le_of_ble_eq_true rfl) (⟨tf24, fp, cd, (upd fx 1 0), rfl, (show CurOk (tf24 10) (tf24 13) (tf24 14) (tf24 15) (tf24 17) (ta 0) from ⟨⟨by first | exact o1 | omega, by first | exact o2 | omega⟩, ⟨by first | exact o3 | omega, by first | exact o4 | omega⟩, ⟨by first | exact o5 | omega, by first | exact o6 | omega⟩, by first | exact o7 | omega, by omega, last_eq hlast (rfl)⟩), (show (tf24 10).toInt = (tf 10).toInt from by first | exact e27 | omega), (show (tf24 13).toInt = (tf 13).toInt from by first | exact e30 | omega), (show (tf24 14).toInt = (tf 14).toInt from by first | exact e28 | omega), (show (tf24 15).toInt = (tf 15).toInt from by first | exact e29 | omega), (show (fx 0).toInt = (fx 0).toInt from rfl), (show (fx 3).toInt = (fx 3).toInt from rfl), (show (fx 5).toInt = (fx 5).toInt from rfl), (show Prel cn (fp 3) cd (fp 3) cd from hrel), (show (fp 3).toInt ≤ (fp 3).toInt + 4 from by first | exact oz_4550f3b49c | omega)⟩) d_Exp_number_96
abbrev b_Exp_shortcut : ByteArray := prog_3_method_8_code
def y_Exp_shortcut : MethodName := ⟨"HomeSystem$Expressions", "shortcut", "(I)I"⟩
theorem d_Exp_shortcut_0 : decode b_Exp_shortcut 0 = .ok (.iload_n 1, 1) := by decide +kernel
theorem d_Exp_shortcut_1 : decode b_Exp_shortcut 1 = .ok (.sipush 136, 3) := by decide +kernel
theorem d_Exp_shortcut_4 : decode b_Exp_shortcut 4 = .ok (.if_icmp .ne 16, 3) := by decide +kernel
theorem d_Exp_shortcut_7 : decode b_Exp_shortcut 7 = .ok (.aload_n 0, 1) := by decide +kernel
theorem d_Exp_shortcut_8 : decode b_Exp_shortcut 8 = .ok (.getfield 19, 3) := by decide +kernel
theorem d_Exp_shortcut_11 : decode b_Exp_shortcut 11 = .ok (.bipush 18, 2) := by decide +kernel
theorem d_Exp_shortcut_13 : decode b_Exp_shortcut 13 = .ok (.iconst (-1), 1) := by decide +kernel
theorem d_Exp_shortcut_14 : decode b_Exp_shortcut 14 = .ok (.iconst 0, 1) := by decide +kernel
theorem d_Exp_shortcut_15 : decode b_Exp_shortcut 15 = .ok (.iconst 0, 1) := by decide +kernel
theorem d_Exp_shortcut_16 : decode b_Exp_shortcut 16 = .ok (.invokevirtual 106, 3) := by decide +kernel
theorem d_Exp_shortcut_19 : decode b_Exp_shortcut 19 = .ok (.ireturn, 1) := by decide +kernel
theorem d_Exp_shortcut_20 : decode b_Exp_shortcut 20 = .ok (.iload_n 1, 1) := by decide +kernel
theorem d_Exp_shortcut_21 : decode b_Exp_shortcut 21 = .ok (.sipush 137, 3) := by decide +kernel
theorem d_Exp_shortcut_24 : decode b_Exp_shortcut 24 = .ok (.if_icmp .ne 18, 3) := by decide +kernel
theorem d_Exp_shortcut_27 : decode b_Exp_shortcut 27 = .ok (.aload_n 0, 1) := by decide +kernel
theorem d_Exp_shortcut_28 : decode b_Exp_shortcut 28 = .ok (.getfield 19, 3) := by decide +kernel
theorem d_Exp_shortcut_31 : decode b_Exp_shortcut 31 = .ok (.bipush 19, 2) := by decide +kernel
theorem d_Exp_shortcut_33 : decode b_Exp_shortcut 33 = .ok (.iconst (-1), 1) := by decide +kernel
theorem d_Exp_shortcut_34 : decode b_Exp_shortcut 34 = .ok (.iconst 0, 1) := by decide +kernel
theorem d_Exp_shortcut_35 : decode b_Exp_shortcut 35 = .ok (.iconst 0, 1) := by decide +kernel
theorem d_Exp_shortcut_36 : decode b_Exp_shortcut 36 = .ok (.invokevirtual 106, 3) := by decide +kernel
theorem d_Exp_shortcut_39 : decode b_Exp_shortcut 39 = .ok (.goto 4, 3) := by decide +kernel
theorem d_Exp_shortcut_42 : decode b_Exp_shortcut 42 = .ok (.iconst (-1), 1) := by decide +kernel
theorem d_Exp_shortcut_43 : decode b_Exp_shortcut 43 = .ok (.ireturn, 1) := by decide +kernel
theorem q_Exp_shortcut : px_y y_Exp_shortcut 1 := by unfold px_y; decide +kernel
set_option maxHeartbeats 4000000 in
set_option maxRecDepth 100000 in
theorem c_ex_shortcut (l : Launch) (D : va_G) (cs : Nat → ClassId) (he : Nat) (re : Nat → Nat) (eo : Nat → Option Nat) (ef : Nat → Int32) (ea : Nat → Nat → Int32) (eg : Nat → Nat → Option Nat) (rp : Nat → Nat) (of : Option Nat) (cn : Nat) (fp : Nat → Int32) (cd : Nat → Int32) (p0 : Int32)  (g0 : cn % 4 = 0) (g1 : cn ≤ 100000) (hpk : Pok cn (fp 3) cd) : MetI l y_Exp_shortcut b_Exp_shortcut 2 (.int) D cs 1 40 (0) (0) [.ref he, .int p0] [wd_Exp cs he re eo ef ea eg, wd_Prg cs (re 2) rp (fun k => if k = 2 then of else none) fp (fun _ _ => 0) (fun _ _ => none), [((rp 1), .inl (cs 0, cn, .inl cd))]] (fun _ => True) (fun v ps => ∃ (fp' : Nat → Int32) (cd' : Nat → Int32), (ps = [wd_Exp cs he re eo ef ea eg, wd_Prg cs (re 2) rp (fun k => if k = 2 then of else none) fp' (fun _ _ => 0) (fun _ _ => none), [((rp 1), .inl (cs 0, cn, .inl cd'))]]) ∧ (Prel cn (fp 3) cd (fp' 3) cd') ∧ ((fp' 3).toInt ≤ (fp 3).toInt + 4) ∧ (Wt cn cd' (fp' 3) v) ∧ (v.toInt = -1 ∨ (fp 3).toInt ≤ v.toInt)) := by
  refine px_enter (by decide) (Nat.le_of_ble_eq_true rfl) ?_
  intro p e s m below meth c A ls hAe S hr hlk hnm hA hT hX hw hl
  replace hl : lv_has ls 2 [(0, .ref he), (1, .int p0)] := hl
  have lp0 := Int32.le_toInt p0
  have up0 := Int32.toInt_lt p0
  have cstm1 : ((-1) : Int32).toInt = (-1) := rfl
  have cst0 : (0 : Int32).toInt = 0 := rfl
  have cst18 : (18 : Int32).toInt = 18 := rfl
  have cst19 : (19 : Int32).toInt = 19 := rfl
  have cst136 : (136 : Int32).toInt = 136 := rfl
  have cst137 : (137 : Int32).toInt = 137 := rfl
  have hrel := Prel.rf hpk
  have pz0 := hrel.nm
  refine lv_iload_n S.x S.b d_Exp_shortcut_0 rfl (lv_at hl 1 rfl) ?_
  refine lv_sipush (v := 136) S.x S.b d_Exp_shortcut_1 (by decide) ?_
  refine lv_icmp_ne (tgt := 20) S.x S.b d_Exp_shortcut_4 (by decide) (fun c1 => ?_) (fun c1 => ?_)
  · have nc1 : ¬ p0.toInt = (136 : Int) := mt (i_eq (x := p0) (y := 136)).mpr c1
    refine lv_iload_n S.x S.b d_Exp_shortcut_20 rfl (lv_at hl 1 rfl) ?_
    refine lv_sipush (v := 137) S.x S.b d_Exp_shortcut_21 (by decide) ?_
    refine lv_icmp_ne (tgt := 42) S.x S.b d_Exp_shortcut_24 (by decide) (fun c2 => ?_) (fun c2 => ?_)
    · have nc2 : ¬ p0.toInt = (137 : Int) := mt (i_eq (x := p0) (y := 137)).mpr c2
      refine lv_iconst (v := (-1)) S.x S.b d_Exp_shortcut_42 (by decide) ?_
      exact px_iret (v := (-1)) S hr rfl hlk hAe hw (Nat.le_of_ble_eq_true rfl) (Nat.le_of_ble_eq_true rfl) (⟨fp, cd, rfl, (show Prel cn (fp 3) cd (fp 3) cd from hrel), (show (fp 3).toInt ≤ (fp 3).toInt + 4 from by first | exact oz_4550f3b49c | omega), (show Wt cn cd (fp 3) (-1) from (by first | assumption | exact Wt.no rfl)), (show (-1 : Int) = -1 ∨ (fp 3).toInt ≤ (-1 : Int) from by first | with_reducible rfl | with_reducible assumption | omega)⟩) d_Exp_shortcut_43
    · have nc2 : p0.toInt = (137 : Int) := (i_eq (x := p0) (y := 137)).mp c2
      refine lv_aload_n S.x S.b d_Exp_shortcut_27 rfl (lv_at hl 0 rfl) ?_
      refine px_get S k_Exp hT hw 0 0 2 (v := .ref (re 2)) rfl rfl rfl (by decide) m2_133 d_Exp_shortcut_28 ?_
      refine lv_bipush (v := 19) S.x S.b d_Exp_shortcut_31 (by decide) ?_
      refine lv_iconst (v := (-1)) S.x S.b d_Exp_shortcut_33 (by decide) ?_
      refine lv_iconst (v := 0) S.x S.b d_Exp_shortcut_34 (by decide) ?_
      refine lv_iconst (v := 0) S.x S.b d_Exp_shortcut_35 (by decide) ?_
      refine px_calli (pr := [wd_Exp cs he re eo ef ea eg]) (px_runV (As := [.int 19, .int (-1), .int 0, .int 0]) (rest := []) S (c_pe_emit l D cs (re 2) rp of cn fp cd 19 (-1) 0 0  (show cn % 4 = 0 from by first | exact g0 | omega) (show cn ≤ 100000 from by first | exact g1 | omega) hrel.1 (jop_lk (by decide) (by first | exact lk_m1 | exact lk_mk (by omega))) _) hT (pr := [wd_Exp cs he re eo ef ea eg]) (pcs := [wd_Prg cs (re 2) rp (fun k => if k = 2 then of else none) fp (fun _ _ => 0) (fun _ _ => none), [((rp 1), .inl (cs 0, cn, .inl cd))]]) hw px_X.tt (px_recv hT hw 1 0 rfl rfl rfl) m4_181 m4_178 m4_179 m4_180 m1_16 q_Prg_emit ⟨Nat.le_of_ble_eq_true rfl, Nat.le_of_ble_eq_true rfl⟩ hl.1 rfl (Nat.le_of_ble_eq_true rfl) d_Exp_shortcut_36 ⟨Nat.le_of_ble_eq_true rfl, Nat.le_of_ble_eq_true rfl⟩) hw hA (fun v8 p7 H locs hp7 hw => ?_)
      obtain ⟨fp5, cd6, rfl, hv_v8, hem, hwx, hsz, k0fp5, k4fp5, k5fp5⟩ := hp7
      have tv_v8 : v8.toInt = (fp 3).toInt := by rw [hv_v8]
      have hrel := hrel.tr hem
      have pz9 := hrel.nm
      have hwt_v8 : Wt cn cd6 (fp5 3) v8 := by rw [hv_v8]; exact hwx rfl
      have hsz_fp5 := hsz
      have hsl_fp5 : (fp5 3).toInt ≤ (fp 3).toInt + 4 := by omega
      clear hsz
      replace hw : pw D A s.heap H locs [wd_Exp cs he re eo ef ea eg, wd_Prg cs (re 2) rp (fun k => if k = 2 then of else none) fp5 (fun _ _ => 0) (fun _ _ => none), [((rp 1), .inl (cs 0, cn, .inl cd6))]] := hw
      have lv8 := Int32.le_toInt v8
      have uv8 := Int32.toInt_lt v8
      refine lv_goto (tgt := 43) S.x S.b d_Exp_shortcut_39 (by decide) ?_
      exact px_iret (v := v8) S hr rfl hlk hAe hw (Nat.le_of_ble_eq_true rfl) (Nat.le_of_ble_eq_true rfl) (⟨fp5, cd6, rfl, (show Prel cn (fp 3) cd (fp5 3) cd6 from hrel), (show (fp5 3).toInt ≤ (fp 3).toInt + 4 from by first | exact hsl_fp5 | omega), (show Wt cn cd6 (fp5 3) v8 from (by first | assumption | exact Wt.no rfl)), (show v8.toInt = -1 ∨ (fp 3).toInt ≤ v8.toInt from by first | with_reducible rfl | with_reducible assumption | omega)⟩) d_Exp_shortcut_43
  · have nc1 : p0.toInt = (136 : Int) := (i_eq (x := p0) (y := 136)).mp c1
    refine lv_aload_n S.x S.b d_Exp_shortcut_7 rfl (lv_at hl 0 rfl) ?_
    refine px_get S k_Exp hT hw 0 0 2 (v := .ref (re 2)) rfl rfl rfl (by decide) m2_133 d_Exp_shortcut_8 ?_
    refine lv_bipush (v := 18) S.x S.b d_Exp_shortcut_11 (by decide) ?_
    refine lv_iconst (v := (-1)) S.x S.b d_Exp_shortcut_13 (by decide) ?_
    refine lv_iconst (v := 0) S.x S.b d_Exp_shortcut_14 (by decide) ?_
    refine lv_iconst (v := 0) S.x S.b d_Exp_shortcut_15 (by decide) ?_
    refine px_calli (pr := [wd_Exp cs he re eo ef ea eg]) (px_runV (As := [.int 18, .int (-1), .int 0, .int 0]) (rest := []) S (c_pe_emit l D cs (re 2) rp of cn fp cd 18 (-1) 0 0  (show cn % 4 = 0 from by first | exact g0 | omega) (show cn ≤ 100000 from by first | exact g1 | omega) hrel.1 (jop_lk (by decide) (by first | exact lk_m1 | exact lk_mk (by omega))) _) hT (pr := [wd_Exp cs he re eo ef ea eg]) (pcs := [wd_Prg cs (re 2) rp (fun k => if k = 2 then of else none) fp (fun _ _ => 0) (fun _ _ => none), [((rp 1), .inl (cs 0, cn, .inl cd))]]) hw px_X.tt (px_recv hT hw 1 0 rfl rfl rfl) m4_181 m4_178 m4_179 m4_180 m1_16 q_Prg_emit ⟨Nat.le_of_ble_eq_true rfl, Nat.le_of_ble_eq_true rfl⟩ hl.1 rfl (Nat.le_of_ble_eq_true rfl) d_Exp_shortcut_16 ⟨Nat.le_of_ble_eq_true rfl, Nat.le_of_ble_eq_true rfl⟩) hw hA (fun v15 p14 H locs hp14 hw => ?_)
    obtain ⟨fp12, cd13, rfl, hv_v15, hem, hwx, hsz, k0fp12, k4fp12, k5fp12⟩ := hp14
    have tv_v15 : v15.toInt = (fp 3).toInt := by rw [hv_v15]
    have hrel := hrel.tr hem
    have pz16 := hrel.nm
    have hwt_v15 : Wt cn cd13 (fp12 3) v15 := by rw [hv_v15]; exact hwx rfl
    have hsz_fp12 := hsz
    have hsl_fp12 : (fp12 3).toInt ≤ (fp 3).toInt + 4 := by omega
    clear hsz
    replace hw : pw D A s.heap H locs [wd_Exp cs he re eo ef ea eg, wd_Prg cs (re 2) rp (fun k => if k = 2 then of else none) fp12 (fun _ _ => 0) (fun _ _ => none), [((rp 1), .inl (cs 0, cn, .inl cd13))]] := hw
    have lv15 := Int32.le_toInt v15
    have uv15 := Int32.toInt_lt v15
    exact px_iret (v := v15) S hr rfl hlk hAe hw (Nat.le_of_ble_eq_true rfl) (Nat.le_of_ble_eq_true rfl) (⟨fp12, cd13, rfl, (show Prel cn (fp 3) cd (fp12 3) cd13 from hrel), (show (fp12 3).toInt ≤ (fp 3).toInt + 4 from by first | exact hsl_fp12 | omega), (show Wt cn cd13 (fp12 3) v15 from (by first | assumption | exact Wt.no rfl)), (show v15.toInt = -1 ∨ (fp 3).toInt ≤ v15.toInt from by first | with_reducible rfl | with_reducible assumption | omega)⟩) d_Exp_shortcut_19
abbrev b_Exp_join : ByteArray := prog_3_method_9_code
def y_Exp_join : MethodName := ⟨"HomeSystem$Expressions", "join", "(II)V"⟩
theorem d_Exp_join_0 : decode b_Exp_join 0 = .ok (.iload_n 2, 1) := by decide +kernel
theorem d_Exp_join_1 : decode b_Exp_join 1 = .ok (.iconst (-1), 1) := by decide +kernel
theorem d_Exp_join_2 : decode b_Exp_join 2 = .ok (.if_icmp .ne 19, 3) := by decide +kernel
theorem d_Exp_join_5 : decode b_Exp_join 5 = .ok (.aload_n 0, 1) := by decide +kernel
theorem d_Exp_join_6 : decode b_Exp_join 6 = .ok (.getfield 19, 3) := by decide +kernel
theorem d_Exp_join_9 : decode b_Exp_join 9 = .ok (.bipush 7, 2) := by decide +kernel
theorem d_Exp_join_11 : decode b_Exp_join 11 = .ok (.iload_n 1, 1) := by decide +kernel
theorem d_Exp_join_12 : decode b_Exp_join 12 = .ok (.iconst 0, 1) := by decide +kernel
theorem d_Exp_join_13 : decode b_Exp_join 13 = .ok (.iconst 0, 1) := by decide +kernel
theorem d_Exp_join_14 : decode b_Exp_join 14 = .ok (.invokevirtual 106, 3) := by decide +kernel
theorem d_Exp_join_17 : decode b_Exp_join 17 = .ok (.pop, 1) := by decide +kernel
theorem d_Exp_join_18 : decode b_Exp_join 18 = .ok (.goto 31, 3) := by decide +kernel
theorem d_Exp_join_21 : decode b_Exp_join 21 = .ok (.aload_n 0, 1) := by decide +kernel
theorem d_Exp_join_22 : decode b_Exp_join 22 = .ok (.getfield 19, 3) := by decide +kernel
theorem d_Exp_join_25 : decode b_Exp_join 25 = .ok (.bipush 9, 2) := by decide +kernel
theorem d_Exp_join_27 : decode b_Exp_join 27 = .ok (.iconst 0, 1) := by decide +kernel
theorem d_Exp_join_28 : decode b_Exp_join 28 = .ok (.iconst 0, 1) := by decide +kernel
theorem d_Exp_join_29 : decode b_Exp_join 29 = .ok (.iconst 0, 1) := by decide +kernel
theorem d_Exp_join_30 : decode b_Exp_join 30 = .ok (.invokevirtual 106, 3) := by decide +kernel
theorem d_Exp_join_33 : decode b_Exp_join 33 = .ok (.pop, 1) := by decide +kernel
theorem d_Exp_join_34 : decode b_Exp_join 34 = .ok (.aload_n 0, 1) := by decide +kernel
theorem d_Exp_join_35 : decode b_Exp_join 35 = .ok (.getfield 19, 3) := by decide +kernel
theorem d_Exp_join_38 : decode b_Exp_join 38 = .ok (.iload_n 2, 1) := by decide +kernel
theorem d_Exp_join_39 : decode b_Exp_join 39 = .ok (.aload_n 0, 1) := by decide +kernel
theorem d_Exp_join_40 : decode b_Exp_join 40 = .ok (.getfield 19, 3) := by decide +kernel
theorem d_Exp_join_43 : decode b_Exp_join 43 = .ok (.getfield 112, 3) := by decide +kernel
theorem d_Exp_join_46 : decode b_Exp_join 46 = .ok (.invokevirtual 116, 3) := by decide +kernel
theorem d_Exp_join_49 : decode b_Exp_join 49 = .ok (.return_, 1) := by decide +kernel
theorem q_Exp_join : px_y y_Exp_join 2 := by unfold px_y; decide +kernel
set_option maxHeartbeats 4000000 in
set_option maxRecDepth 100000 in
theorem c_ex_join (l : Launch) (D : va_G) (cs : Nat → ClassId) (he : Nat) (re : Nat → Nat) (eo : Nat → Option Nat) (ef : Nat → Int32) (ea : Nat → Nat → Int32) (eg : Nat → Nat → Option Nat) (rp : Nat → Nat) (of : Option Nat) (cn : Nat) (fp : Nat → Int32) (cd : Nat → Int32) (p0 p1 : Int32) (z0 : Int32) (c0 : Nat → Int32) (g0 : cn % 4 = 0) (g1 : cn ≤ 100000) (g2 : p1.toInt = -1 ∨ z0.toInt ≤ p1.toInt) (hpk : Pok cn (fp 3) cd) (hr0 : Prel cn z0 c0 (fp 3) cd) (hwt : Wt cn cd (fp 3) p1) : MetV l y_Exp_join b_Exp_join 3 D cs 1 40 (0) (0) [.ref he, .int p0, .int p1] [wd_Exp cs he re eo ef ea eg, wd_Prg cs (re 2) rp (fun k => if k = 2 then of else none) fp (fun _ _ => 0) (fun _ _ => none), [((rp 1), .inl (cs 0, cn, .inl cd))]] (fun _ => True) (fun ps => ∃ (fp' : Nat → Int32) (cd' : Nat → Int32), (ps = [wd_Exp cs he re eo ef ea eg, wd_Prg cs (re 2) rp (fun k => if k = 2 then of else none) fp' (fun _ _ => 0) (fun _ _ => none), [((rp 1), .inl (cs 0, cn, .inl cd'))]]) ∧ (Prel cn z0 c0 (fp' 3) cd') ∧ ((fp' 3).toInt ≤ (fp 3).toInt + 4)) := by
  refine px_enter (by decide) (Nat.le_of_ble_eq_true rfl) ?_
  intro p e s m below meth c A ls hAe S hr hlk hnm hA hT hX hw hl
  replace hl : lv_has ls 3 [(0, .ref he), (1, .int p0), (2, .int p1)] := hl
  have lp0 := Int32.le_toInt p0
  have up0 := Int32.toInt_lt p0
  have lp1 := Int32.le_toInt p1
  have up1 := Int32.toInt_lt p1
  have cstm1 : ((-1) : Int32).toInt = (-1) := rfl
  have cst0 : (0 : Int32).toInt = 0 := rfl
  have cst7 : (7 : Int32).toInt = 7 := rfl
  have cst9 : (9 : Int32).toInt = 9 := rfl
  have hrel := Prel.rf hpk
  have pz0 := hrel.nm
  have hrel := hr0
  refine lv_iload_n S.x S.b d_Exp_join_0 rfl (lv_at hl 2 rfl) ?_
  refine lv_iconst (v := (-1)) S.x S.b d_Exp_join_1 (by decide) ?_
  refine lv_icmp_ne (tgt := 21) S.x S.b d_Exp_join_2 (by decide) (fun c1 => ?_) (fun c1 => ?_)
  · have nc1 : ¬ p1.toInt = (-1 : Int) := mt (i_eq (x := p1) (y := (-1))).mpr c1
    refine lv_aload_n S.x S.b d_Exp_join_21 rfl (lv_at hl 0 rfl) ?_
    refine px_get S k_Exp hT hw 0 0 2 (v := .ref (re 2)) rfl rfl rfl (by decide) m2_133 d_Exp_join_22 ?_
    refine lv_bipush (v := 9) S.x S.b d_Exp_join_25 (by decide) ?_
    refine lv_iconst (v := 0) S.x S.b d_Exp_join_27 (by decide) ?_
    refine lv_iconst (v := 0) S.x S.b d_Exp_join_28 (by decide) ?_
    refine lv_iconst (v := 0) S.x S.b d_Exp_join_29 (by decide) ?_
    refine px_calli (pr := [wd_Exp cs he re eo ef ea eg]) (px_runV (As := [.int 9, .int 0, .int 0, .int 0]) (rest := []) S (c_pe_emit l D cs (re 2) rp of cn fp cd 9 0 0 0  (show cn % 4 = 0 from by first | exact g0 | omega) (show cn ≤ 100000 from by first | exact g1 | omega) hrel.1 (jop_low (by decide)) _) hT (pr := [wd_Exp cs he re eo ef ea eg]) (pcs := [wd_Prg cs (re 2) rp (fun k => if k = 2 then of else none) fp (fun _ _ => 0) (fun _ _ => none), [((rp 1), .inl (cs 0, cn, .inl cd))]]) hw px_X.tt (px_recv hT hw 1 0 rfl rfl rfl) m4_181 m4_178 m4_179 m4_180 m1_16 q_Prg_emit ⟨Nat.le_of_ble_eq_true rfl, Nat.le_of_ble_eq_true rfl⟩ hl.1 rfl (Nat.le_of_ble_eq_true rfl) d_Exp_join_30 ⟨Nat.le_of_ble_eq_true rfl, Nat.le_of_ble_eq_true rfl⟩) hw hA (fun v7 p6 H locs hp6 hw => ?_)
    obtain ⟨fp4, cd5, rfl, hv_v7, hem, hwx, hsz, k0fp4, k4fp4, k5fp4⟩ := hp6
    have tv_v7 : v7.toInt = (fp 3).toInt := by rw [hv_v7]
    have hrel := hrel.tr hem
    have pz8 := hrel.nm
    have hwt := hwt.kp hem
    have hsl_fp4 : (fp4 3).toInt ≤ (fp 3).toInt + 4 := by omega
    clear hsz
    replace hw : pw D A s.heap H locs [wd_Exp cs he re eo ef ea eg, wd_Prg cs (re 2) rp (fun k => if k = 2 then of else none) fp4 (fun _ _ => 0) (fun _ _ => none), [((rp 1), .inl (cs 0, cn, .inl cd5))]] := hw
    have lv7 := Int32.le_toInt v7
    have uv7 := Int32.toInt_lt v7
    refine lv_pop S.x S.b d_Exp_join_33 rfl ?_
    refine lv_aload_n S.x S.b d_Exp_join_34 rfl (lv_at hl 0 rfl) ?_
    refine px_get S k_Exp hT hw 0 0 2 (v := .ref (re 2)) rfl rfl rfl (by decide) m2_133 d_Exp_join_35 ?_
    refine lv_iload_n S.x S.b d_Exp_join_38 rfl (lv_at hl 2 rfl) ?_
    refine lv_aload_n S.x S.b d_Exp_join_39 rfl (lv_at hl 0 rfl) ?_
    refine px_get S k_Exp hT hw 0 0 2 (v := .ref (re 2)) rfl rfl rfl (by decide) m2_133 d_Exp_join_40 ?_
    refine px_get S k_Prg hT hw 1 0 3 (v := .int (fp4 3)) rfl rfl rfl (by decide) m2_107 d_Exp_join_43 ?_
    refine px_callv (pr := [wd_Exp cs he re eo ef ea eg]) (px_runV (As := [.int p1, .int (fp4 3)]) (rest := []) S (c_pe_aim l D cs (re 2) rp of cn fp4 cd5 p1 (fp4 3)  (show cn % 4 = 0 from by first | exact g0 | omega) (show cn ≤ 100000 from by first | exact g1 | omega) (show 0 ≤ (fp4 3).toInt from by first | with_reducible rfl | with_reducible assumption | omega) (show (fp4 3).toInt % 4 = 0 from by first | with_reducible rfl | with_reducible assumption | omega) (show (fp4 3).toInt ≤ 100000 from by first | with_reducible rfl | with_reducible assumption | omega) hrel.1 hwt _) hT (pr := [wd_Exp cs he re eo ef ea eg]) (pcs := [wd_Prg cs (re 2) rp (fun k => if k = 2 then of else none) fp4 (fun _ _ => 0) (fun _ _ => none), [((rp 1), .inl (cs 0, cn, .inl cd5))]]) hw px_X.tt (px_recv hT hw 1 0 rfl rfl rfl) m5_88 m5_85 m5_86 m5_87 m1_16 q_Prg_aim ⟨Nat.le_of_ble_eq_true rfl, Nat.le_of_ble_eq_true rfl⟩ hl.1 rfl (Nat.le_of_ble_eq_true rfl) d_Exp_join_46 ⟨Nat.le_of_ble_eq_true rfl, Nat.le_of_ble_eq_true rfl⟩) hw hA (fun p12 H locs hp12 hw => ?_)
    obtain ⟨cd11, rfl, ham⟩ := hp12
    have hrel := hrel.am ham (by omega)
    replace hw : pw D A s.heap H locs [wd_Exp cs he re eo ef ea eg, wd_Prg cs (re 2) rp (fun k => if k = 2 then of else none) fp4 (fun _ _ => 0) (fun _ _ => none), [((rp 1), .inl (cs 0, cn, .inl cd11))]] := hw
    exact px_vret S hr hlk hAe hw (Nat.le_of_ble_eq_true rfl) (Nat.le_of_ble_eq_true rfl) (⟨fp4, cd11, rfl, (show Prel cn z0 c0 (fp4 3) cd11 from hrel), (show (fp4 3).toInt ≤ (fp 3).toInt + 4 from by first | exact hsl_fp4 | omega)⟩) d_Exp_join_49
  · have nc1 : p1.toInt = (-1 : Int) := (i_eq (x := p1) (y := (-1))).mp c1
    refine lv_aload_n S.x S.b d_Exp_join_5 rfl (lv_at hl 0 rfl) ?_
    refine px_get S k_Exp hT hw 0 0 2 (v := .ref (re 2)) rfl rfl rfl (by decide) m2_133 d_Exp_join_6 ?_
    refine lv_bipush (v := 7) S.x S.b d_Exp_join_9 (by decide) ?_
    refine lv_iload_n S.x S.b d_Exp_join_11 rfl (lv_at hl 1 rfl) ?_
    refine lv_iconst (v := 0) S.x S.b d_Exp_join_12 (by decide) ?_
    refine lv_iconst (v := 0) S.x S.b d_Exp_join_13 (by decide) ?_
    refine px_calli (pr := [wd_Exp cs he re eo ef ea eg]) (px_runV (As := [.int 7, .int p0, .int 0, .int 0]) (rest := []) S (c_pe_emit l D cs (re 2) rp of cn fp cd 7 p0 0 0  (show cn % 4 = 0 from by first | exact g0 | omega) (show cn ≤ 100000 from by first | exact g1 | omega) hrel.1 (jop_low (by decide)) _) hT (pr := [wd_Exp cs he re eo ef ea eg]) (pcs := [wd_Prg cs (re 2) rp (fun k => if k = 2 then of else none) fp (fun _ _ => 0) (fun _ _ => none), [((rp 1), .inl (cs 0, cn, .inl cd))]]) hw px_X.tt (px_recv hT hw 1 0 rfl rfl rfl) m4_181 m4_178 m4_179 m4_180 m1_16 q_Prg_emit ⟨Nat.le_of_ble_eq_true rfl, Nat.le_of_ble_eq_true rfl⟩ hl.1 rfl (Nat.le_of_ble_eq_true rfl) d_Exp_join_14 ⟨Nat.le_of_ble_eq_true rfl, Nat.le_of_ble_eq_true rfl⟩) hw hA (fun v19 p18 H locs hp18 hw => ?_)
    obtain ⟨fp16, cd17, rfl, hv_v19, hem, hwx, hsz, k0fp16, k4fp16, k5fp16⟩ := hp18
    have tv_v19 : v19.toInt = (fp 3).toInt := by rw [hv_v19]
    have hrel := hrel.tr hem
    have pz20 := hrel.nm
    have hwt := hwt.kp hem
    have hsl_fp16 : (fp16 3).toInt ≤ (fp 3).toInt + 4 := by omega
    clear hsz
    replace hw : pw D A s.heap H locs [wd_Exp cs he re eo ef ea eg, wd_Prg cs (re 2) rp (fun k => if k = 2 then of else none) fp16 (fun _ _ => 0) (fun _ _ => none), [((rp 1), .inl (cs 0, cn, .inl cd17))]] := hw
    have lv19 := Int32.le_toInt v19
    have uv19 := Int32.toInt_lt v19
    refine lv_pop S.x S.b d_Exp_join_17 rfl ?_
    refine lv_goto (tgt := 49) S.x S.b d_Exp_join_18 (by decide) ?_
    exact px_vret S hr hlk hAe hw (Nat.le_of_ble_eq_true rfl) (Nat.le_of_ble_eq_true rfl) (⟨fp16, cd17, rfl, (show Prel cn z0 c0 (fp16 3) cd17 from hrel), (show (fp16 3).toInt ≤ (fp 3).toInt + 4 from by first | exact hsl_fp16 | omega)⟩) d_Exp_join_49
abbrev b_Exp_foldLogic : ByteArray := prog_3_method_11_code
def y_Exp_foldLogic : MethodName := ⟨"HomeSystem$Expressions", "foldLogic", "(LHomeSystem$Operand;ZLHomeSystem$Operand;)V"⟩
theorem d_Exp_foldLogic_0 : decode b_Exp_foldLogic 0 = .ok (.aload_n 0, 1) := by decide +kernel
theorem d_Exp_foldLogic_1 : decode b_Exp_foldLogic 1 = .ok (.getfield 113, 3) := by decide +kernel
theorem d_Exp_foldLogic_4 : decode b_Exp_foldLogic 4 = .ok (.ifCond .eq 4, 3) := by decide +kernel
theorem d_Exp_foldLogic_7 : decode b_Exp_foldLogic 7 = .ok (.return_, 1) := by decide +kernel
theorem d_Exp_foldLogic_8 : decode b_Exp_foldLogic 8 = .ok (.aload_n 0, 1) := by decide +kernel
theorem d_Exp_foldLogic_9 : decode b_Exp_foldLogic 9 = .ok (.getfield 123, 3) := by decide +kernel
theorem d_Exp_foldLogic_12 : decode b_Exp_foldLogic 12 = .ok (.ifCond .eq 7, 3) := by decide +kernel
theorem d_Exp_foldLogic_15 : decode b_Exp_foldLogic 15 = .ok (.iconst 1, 1) := by decide +kernel
theorem d_Exp_foldLogic_16 : decode b_Exp_foldLogic 16 = .ok (.goto 4, 3) := by decide +kernel
theorem d_Exp_foldLogic_19 : decode b_Exp_foldLogic 19 = .ok (.iconst 0, 1) := by decide +kernel
theorem d_Exp_foldLogic_20 : decode b_Exp_foldLogic 20 = .ok (.iload_n 1, 1) := by decide +kernel
theorem d_Exp_foldLogic_21 : decode b_Exp_foldLogic 21 = .ok (.if_icmp .ne 19, 3) := by decide +kernel
theorem d_Exp_foldLogic_24 : decode b_Exp_foldLogic 24 = .ok (.aload_n 0, 1) := by decide +kernel
theorem d_Exp_foldLogic_25 : decode b_Exp_foldLogic 25 = .ok (.iload_n 1, 1) := by decide +kernel
theorem d_Exp_foldLogic_26 : decode b_Exp_foldLogic 26 = .ok (.ifCond .eq 7, 3) := by decide +kernel
theorem d_Exp_foldLogic_29 : decode b_Exp_foldLogic 29 = .ok (.iconst 1, 1) := by decide +kernel
theorem d_Exp_foldLogic_30 : decode b_Exp_foldLogic 30 = .ok (.goto 4, 3) := by decide +kernel
theorem d_Exp_foldLogic_33 : decode b_Exp_foldLogic 33 = .ok (.iconst 0, 1) := by decide +kernel
theorem d_Exp_foldLogic_34 : decode b_Exp_foldLogic 34 = .ok (.putfield 123, 3) := by decide +kernel
theorem d_Exp_foldLogic_37 : decode b_Exp_foldLogic 37 = .ok (.goto 27, 3) := by decide +kernel
theorem d_Exp_foldLogic_40 : decode b_Exp_foldLogic 40 = .ok (.aload_n 0, 1) := by decide +kernel
theorem d_Exp_foldLogic_41 : decode b_Exp_foldLogic 41 = .ok (.aload_n 2, 1) := by decide +kernel
theorem d_Exp_foldLogic_42 : decode b_Exp_foldLogic 42 = .ok (.getfield 113, 3) := by decide +kernel
theorem d_Exp_foldLogic_45 : decode b_Exp_foldLogic 45 = .ok (.putfield 113, 3) := by decide +kernel
theorem d_Exp_foldLogic_48 : decode b_Exp_foldLogic 48 = .ok (.aload_n 0, 1) := by decide +kernel
theorem d_Exp_foldLogic_49 : decode b_Exp_foldLogic 49 = .ok (.aload_n 2, 1) := by decide +kernel
theorem d_Exp_foldLogic_50 : decode b_Exp_foldLogic 50 = .ok (.getfield 123, 3) := by decide +kernel
theorem d_Exp_foldLogic_53 : decode b_Exp_foldLogic 53 = .ok (.ifCond .eq 7, 3) := by decide +kernel
theorem d_Exp_foldLogic_56 : decode b_Exp_foldLogic 56 = .ok (.iconst 1, 1) := by decide +kernel
theorem d_Exp_foldLogic_57 : decode b_Exp_foldLogic 57 = .ok (.goto 4, 3) := by decide +kernel
theorem d_Exp_foldLogic_60 : decode b_Exp_foldLogic 60 = .ok (.iconst 0, 1) := by decide +kernel
theorem d_Exp_foldLogic_61 : decode b_Exp_foldLogic 61 = .ok (.putfield 123, 3) := by decide +kernel
theorem d_Exp_foldLogic_64 : decode b_Exp_foldLogic 64 = .ok (.return_, 1) := by decide +kernel
theorem q_Exp_foldLogic : px_y y_Exp_foldLogic 3 := by unfold px_y; decide +kernel
set_option maxHeartbeats 4000000 in
set_option maxRecDepth 100000 in
theorem c_ex_foldLogic (l : Launch) (D : va_G) (cs : Nat → ClassId) (hx : Nat) (ox : Option Nat) (fx : Nat → Int32) (hy : Nat) (oy : Option Nat) (fy : Nat → Int32) (p0 : Int32)   : MetV l y_Exp_foldLogic b_Exp_foldLogic 3 D cs 0 0 (0) (0) [.ref hx, .int p0, .ref hy] [wd_Opd cs hx (fun _ => 0) (fun k => if k = 4 then ox else none) fx (fun _ _ => 0) (fun _ _ => none), wd_Opd cs hy (fun _ => 0) (fun k => if k = 4 then oy else none) fy (fun _ _ => 0) (fun _ _ => none)] (fun _ => True) (fun ps => ∃ (fx' : Nat → Int32), (ps = [wd_Opd cs hx (fun _ => 0) (fun k => if k = 4 then ox else none) fx' (fun _ _ => 0) (fun _ _ => none), wd_Opd cs hy (fun _ => 0) (fun k => if k = 4 then oy else none) fy (fun _ _ => 0) (fun _ _ => none)]) ∧ ((fx' 0).toInt = (fx 0).toInt) ∧ ((fx' 3).toInt = (fx 3).toInt) ∧ ((fx' 5).toInt = (fx 5).toInt)) := by
  refine px_enter (by decide) (Nat.le_of_ble_eq_true rfl) ?_
  intro p e s m below meth c A ls hAe S hr hlk hnm hA hT hX hw hl
  replace hl : lv_has ls 3 [(0, .ref hx), (1, .int p0), (2, .ref hy)] := hl
  have lp0 := Int32.le_toInt p0
  have up0 := Int32.toInt_lt p0
  have cst0 : (0 : Int32).toInt = 0 := rfl
  have cst1 : (1 : Int32).toInt = 1 := rfl
  refine lv_aload_n S.x S.b d_Exp_foldLogic_0 rfl (lv_at hl 0 rfl) ?_
  refine px_get S k_Opd hT hw 0 0 2 (v := .int (fx 2)) rfl rfl rfl (by decide) m4_223 d_Exp_foldLogic_1 ?_
  refine lv_if_eq (tgt := 8) S.x S.b d_Exp_foldLogic_4 (by decide) (fun c1 => ?_) (fun c1 => ?_)
  · have nc1 : (fx 2).toInt = (0 : Int) := (i_eq (x := (fx 2)) (y := 0)).mp c1
    refine lv_aload_n S.x S.b d_Exp_foldLogic_8 rfl (lv_at hl 0 rfl) ?_
    refine px_get S k_Opd hT hw 0 0 8 (v := .int (fx 8)) rfl rfl rfl (by decide) m4_235 d_Exp_foldLogic_9 ?_
    refine lv_if_eq (tgt := 19) S.x S.b d_Exp_foldLogic_12 (by decide) (fun c2 => ?_) (fun c2 => ?_)
    · have nc2 : (fx 8).toInt = (0 : Int) := (i_eq (x := (fx 8)) (y := 0)).mp c2
      refine lv_iconst (v := 0) S.x S.b d_Exp_foldLogic_19 (by decide) ?_
      refine lv_iload_n S.x S.b d_Exp_foldLogic_20 rfl (lv_at hl 1 rfl) ?_
      refine lv_icmp_ne (tgt := 40) S.x S.b d_Exp_foldLogic_21 (by decide) (fun c3 => ?_) (fun c3 => ?_)
      · have nc3 : ¬ (0 : Int) = p0.toInt := mt (i_eq (x := 0) (y := p0)).mpr c3
        refine lv_aload_n S.x S.b d_Exp_foldLogic_40 rfl (lv_at hl 0 rfl) ?_
        refine lv_aload_n S.x S.b d_Exp_foldLogic_41 rfl (lv_at hl 2 rfl) ?_
        refine px_get S k_Opd hT hw 1 0 2 (v := .int (fy 2)) rfl rfl rfl (by decide) m4_223 d_Exp_foldLogic_42 ?_
        refine px_put S k_Opd hT hw 0 0 2 rfl rfl (by decide) m4_223 rfl rfl rfl (Nat.le_of_ble_eq_true rfl) d_Exp_foldLogic_45 (w' := wd_Opd cs hx (fun _ => 0) (fun k => if k = 4 then ox else none) (upd fx 2 (fy 2)) (fun _ _ => 0) (fun _ _ => none)) (ps' := [wd_Opd cs hx (fun _ => 0) (fun k => if k = 4 then ox else none) (upd fx 2 (fy 2)) (fun _ _ => 0) (fun _ _ => none), wd_Opd cs hy (fun _ => 0) (fun k => if k = 4 then oy else none) fy (fun _ _ => 0) (fun _ _ => none)]) rfl rfl (fun H locs hw => ?_)
        refine lv_aload_n S.x S.b d_Exp_foldLogic_48 rfl (lv_at hl 0 rfl) ?_
        refine lv_aload_n S.x S.b d_Exp_foldLogic_49 rfl (lv_at hl 2 rfl) ?_
        refine px_get S k_Opd hT hw 1 0 8 (v := .int (fy 8)) rfl rfl rfl (by decide) m4_235 d_Exp_foldLogic_50 ?_
        refine lv_if_eq (tgt := 60) S.x S.b d_Exp_foldLogic_53 (by decide) (fun c4 => ?_) (fun c4 => ?_)
        · have nc4 : (fy 8).toInt = (0 : Int) := (i_eq (x := (fy 8)) (y := 0)).mp c4
          refine lv_iconst (v := 0) S.x S.b d_Exp_foldLogic_60 (by decide) ?_
          refine px_put S k_Opd hT hw 0 0 8 rfl rfl (by decide) m4_235 rfl rfl rfl (Nat.le_of_ble_eq_true rfl) d_Exp_foldLogic_61 (w' := wd_Opd cs hx (fun _ => 0) (fun k => if k = 4 then ox else none) (upd (upd fx 2 (fy 2)) 8 0) (fun _ _ => 0) (fun _ _ => none)) (ps' := [wd_Opd cs hx (fun _ => 0) (fun k => if k = 4 then ox else none) (upd (upd fx 2 (fy 2)) 8 0) (fun _ _ => 0) (fun _ _ => none), wd_Opd cs hy (fun _ => 0) (fun k => if k = 4 then oy else none) fy (fun _ _ => 0) (fun _ _ => none)]) rfl rfl (fun H locs hw => ?_)
          exact px_vret S hr hlk hAe hw (Nat.le_of_ble_eq_true rfl) (Nat.le_of_ble_eq_true rfl) (⟨(upd (upd fx 2 (fy 2)) 8 0), rfl, (show (fx 0).toInt = (fx 0).toInt from rfl), (show (fx 3).toInt = (fx 3).toInt from rfl), (show (fx 5).toInt = (fx 5).toInt from rfl)⟩) d_Exp_foldLogic_64
        · have nc4 : ¬ (fy 8).toInt = (0 : Int) := mt (i_eq (x := (fy 8)) (y := 0)).mpr c4
          refine lv_iconst (v := 1) S.x S.b d_Exp_foldLogic_56 (by decide) ?_
          refine lv_goto (tgt := 61) S.x S.b d_Exp_foldLogic_57 (by decide) ?_
          refine px_put S k_Opd hT hw 0 0 8 rfl rfl (by decide) m4_235 rfl rfl rfl (Nat.le_of_ble_eq_true rfl) d_Exp_foldLogic_61 (w' := wd_Opd cs hx (fun _ => 0) (fun k => if k = 4 then ox else none) (upd (upd fx 2 (fy 2)) 8 1) (fun _ _ => 0) (fun _ _ => none)) (ps' := [wd_Opd cs hx (fun _ => 0) (fun k => if k = 4 then ox else none) (upd (upd fx 2 (fy 2)) 8 1) (fun _ _ => 0) (fun _ _ => none), wd_Opd cs hy (fun _ => 0) (fun k => if k = 4 then oy else none) fy (fun _ _ => 0) (fun _ _ => none)]) rfl rfl (fun H locs hw => ?_)
          exact px_vret S hr hlk hAe hw (Nat.le_of_ble_eq_true rfl) (Nat.le_of_ble_eq_true rfl) (⟨(upd (upd fx 2 (fy 2)) 8 1), rfl, (show (fx 0).toInt = (fx 0).toInt from rfl), (show (fx 3).toInt = (fx 3).toInt from rfl), (show (fx 5).toInt = (fx 5).toInt from rfl)⟩) d_Exp_foldLogic_64
      · have nc3 : (0 : Int) = p0.toInt := (i_eq (x := 0) (y := p0)).mp c3
        refine lv_aload_n S.x S.b d_Exp_foldLogic_24 rfl (lv_at hl 0 rfl) ?_
        refine lv_iload_n S.x S.b d_Exp_foldLogic_25 rfl (lv_at hl 1 rfl) ?_
        refine lv_if_eq (tgt := 33) S.x S.b d_Exp_foldLogic_26 (by decide) (fun c5 => ?_) (fun c5 => ?_)
        · have nc5 : p0.toInt = (0 : Int) := (i_eq (x := p0) (y := 0)).mp c5
          refine lv_iconst (v := 0) S.x S.b d_Exp_foldLogic_33 (by decide) ?_
          refine px_put S k_Opd hT hw 0 0 8 rfl rfl (by decide) m4_235 rfl rfl rfl (Nat.le_of_ble_eq_true rfl) d_Exp_foldLogic_34 (w' := wd_Opd cs hx (fun _ => 0) (fun k => if k = 4 then ox else none) (upd fx 8 0) (fun _ _ => 0) (fun _ _ => none)) (ps' := [wd_Opd cs hx (fun _ => 0) (fun k => if k = 4 then ox else none) (upd fx 8 0) (fun _ _ => 0) (fun _ _ => none), wd_Opd cs hy (fun _ => 0) (fun k => if k = 4 then oy else none) fy (fun _ _ => 0) (fun _ _ => none)]) rfl rfl (fun H locs hw => ?_)
          refine lv_goto (tgt := 64) S.x S.b d_Exp_foldLogic_37 (by decide) ?_
          exact px_vret S hr hlk hAe hw (Nat.le_of_ble_eq_true rfl) (Nat.le_of_ble_eq_true rfl) (⟨(upd fx 8 0), rfl, (show (fx 0).toInt = (fx 0).toInt from rfl), (show (fx 3).toInt = (fx 3).toInt from rfl), (show (fx 5).toInt = (fx 5).toInt from rfl)⟩) d_Exp_foldLogic_64
        · have nc5 : ¬ p0.toInt = (0 : Int) := mt (i_eq (x := p0) (y := 0)).mpr c5
          refine lv_iconst (v := 1) S.x S.b d_Exp_foldLogic_29 (by decide) ?_
          refine lv_goto (tgt := 34) S.x S.b d_Exp_foldLogic_30 (by decide) ?_
          refine px_put S k_Opd hT hw 0 0 8 rfl rfl (by decide) m4_235 rfl rfl rfl (Nat.le_of_ble_eq_true rfl) d_Exp_foldLogic_34 (w' := wd_Opd cs hx (fun _ => 0) (fun k => if k = 4 then ox else none) (upd fx 8 1) (fun _ _ => 0) (fun _ _ => none)) (ps' := [wd_Opd cs hx (fun _ => 0) (fun k => if k = 4 then ox else none) (upd fx 8 1) (fun _ _ => 0) (fun _ _ => none), wd_Opd cs hy (fun _ => 0) (fun k => if k = 4 then oy else none) fy (fun _ _ => 0) (fun _ _ => none)]) rfl rfl (fun H locs hw => ?_)
          refine lv_goto (tgt := 64) S.x S.b d_Exp_foldLogic_37 (by decide) ?_
          exact px_vret S hr hlk hAe hw (Nat.le_of_ble_eq_true rfl) (Nat.le_of_ble_eq_true rfl) (⟨(upd fx 8 1), rfl, (show (fx 0).toInt = (fx 0).toInt from rfl), (show (fx 3).toInt = (fx 3).toInt from rfl), (show (fx 5).toInt = (fx 5).toInt from rfl)⟩) d_Exp_foldLogic_64
    · have nc2 : ¬ (fx 8).toInt = (0 : Int) := mt (i_eq (x := (fx 8)) (y := 0)).mpr c2
      refine lv_iconst (v := 1) S.x S.b d_Exp_foldLogic_15 (by decide) ?_
      refine lv_goto (tgt := 20) S.x S.b d_Exp_foldLogic_16 (by decide) ?_
      refine lv_iload_n S.x S.b d_Exp_foldLogic_20 rfl (lv_at hl 1 rfl) ?_
      refine lv_icmp_ne (tgt := 40) S.x S.b d_Exp_foldLogic_21 (by decide) (fun c6 => ?_) (fun c6 => ?_)
      · have nc6 : ¬ (1 : Int) = p0.toInt := mt (i_eq (x := 1) (y := p0)).mpr c6
        refine lv_aload_n S.x S.b d_Exp_foldLogic_40 rfl (lv_at hl 0 rfl) ?_
        refine lv_aload_n S.x S.b d_Exp_foldLogic_41 rfl (lv_at hl 2 rfl) ?_
        refine px_get S k_Opd hT hw 1 0 2 (v := .int (fy 2)) rfl rfl rfl (by decide) m4_223 d_Exp_foldLogic_42 ?_
        refine px_put S k_Opd hT hw 0 0 2 rfl rfl (by decide) m4_223 rfl rfl rfl (Nat.le_of_ble_eq_true rfl) d_Exp_foldLogic_45 (w' := wd_Opd cs hx (fun _ => 0) (fun k => if k = 4 then ox else none) (upd fx 2 (fy 2)) (fun _ _ => 0) (fun _ _ => none)) (ps' := [wd_Opd cs hx (fun _ => 0) (fun k => if k = 4 then ox else none) (upd fx 2 (fy 2)) (fun _ _ => 0) (fun _ _ => none), wd_Opd cs hy (fun _ => 0) (fun k => if k = 4 then oy else none) fy (fun _ _ => 0) (fun _ _ => none)]) rfl rfl (fun H locs hw => ?_)
        refine lv_aload_n S.x S.b d_Exp_foldLogic_48 rfl (lv_at hl 0 rfl) ?_
        refine lv_aload_n S.x S.b d_Exp_foldLogic_49 rfl (lv_at hl 2 rfl) ?_
        refine px_get S k_Opd hT hw 1 0 8 (v := .int (fy 8)) rfl rfl rfl (by decide) m4_235 d_Exp_foldLogic_50 ?_
        refine lv_if_eq (tgt := 60) S.x S.b d_Exp_foldLogic_53 (by decide) (fun c7 => ?_) (fun c7 => ?_)
        · have nc7 : (fy 8).toInt = (0 : Int) := (i_eq (x := (fy 8)) (y := 0)).mp c7
          refine lv_iconst (v := 0) S.x S.b d_Exp_foldLogic_60 (by decide) ?_
          refine px_put S k_Opd hT hw 0 0 8 rfl rfl (by decide) m4_235 rfl rfl rfl (Nat.le_of_ble_eq_true rfl) d_Exp_foldLogic_61 (w' := wd_Opd cs hx (fun _ => 0) (fun k => if k = 4 then ox else none) (upd (upd fx 2 (fy 2)) 8 0) (fun _ _ => 0) (fun _ _ => none)) (ps' := [wd_Opd cs hx (fun _ => 0) (fun k => if k = 4 then ox else none) (upd (upd fx 2 (fy 2)) 8 0) (fun _ _ => 0) (fun _ _ => none), wd_Opd cs hy (fun _ => 0) (fun k => if k = 4 then oy else none) fy (fun _ _ => 0) (fun _ _ => none)]) rfl rfl (fun H locs hw => ?_)
          exact px_vret S hr hlk hAe hw (Nat.le_of_ble_eq_true rfl) (Nat.le_of_ble_eq_true rfl) (⟨(upd (upd fx 2 (fy 2)) 8 0), rfl, (show (fx 0).toInt = (fx 0).toInt from rfl), (show (fx 3).toInt = (fx 3).toInt from rfl), (show (fx 5).toInt = (fx 5).toInt from rfl)⟩) d_Exp_foldLogic_64
        · have nc7 : ¬ (fy 8).toInt = (0 : Int) := mt (i_eq (x := (fy 8)) (y := 0)).mpr c7
          refine lv_iconst (v := 1) S.x S.b d_Exp_foldLogic_56 (by decide) ?_
          refine lv_goto (tgt := 61) S.x S.b d_Exp_foldLogic_57 (by decide) ?_
          refine px_put S k_Opd hT hw 0 0 8 rfl rfl (by decide) m4_235 rfl rfl rfl (Nat.le_of_ble_eq_true rfl) d_Exp_foldLogic_61 (w' := wd_Opd cs hx (fun _ => 0) (fun k => if k = 4 then ox else none) (upd (upd fx 2 (fy 2)) 8 1) (fun _ _ => 0) (fun _ _ => none)) (ps' := [wd_Opd cs hx (fun _ => 0) (fun k => if k = 4 then ox else none) (upd (upd fx 2 (fy 2)) 8 1) (fun _ _ => 0) (fun _ _ => none), wd_Opd cs hy (fun _ => 0) (fun k => if k = 4 then oy else none) fy (fun _ _ => 0) (fun _ _ => none)]) rfl rfl (fun H locs hw => ?_)
          exact px_vret S hr hlk hAe hw (Nat.le_of_ble_eq_true rfl) (Nat.le_of_ble_eq_true rfl) (⟨(upd (upd fx 2 (fy 2)) 8 1), rfl, (show (fx 0).toInt = (fx 0).toInt from rfl), (show (fx 3).toInt = (fx 3).toInt from rfl), (show (fx 5).toInt = (fx 5).toInt from rfl)⟩) d_Exp_foldLogic_64
      · have nc6 : (1 : Int) = p0.toInt := (i_eq (x := 1) (y := p0)).mp c6
        refine lv_aload_n S.x S.b d_Exp_foldLogic_24 rfl (lv_at hl 0 rfl) ?_
        refine lv_iload_n S.x S.b d_Exp_foldLogic_25 rfl (lv_at hl 1 rfl) ?_
        refine lv_if_eq (tgt := 33) S.x S.b d_Exp_foldLogic_26 (by decide) (fun c8 => ?_) (fun c8 => ?_)
        · have nc8 : p0.toInt = (0 : Int) := (i_eq (x := p0) (y := 0)).mp c8
          refine lv_iconst (v := 0) S.x S.b d_Exp_foldLogic_33 (by decide) ?_
          refine px_put S k_Opd hT hw 0 0 8 rfl rfl (by decide) m4_235 rfl rfl rfl (Nat.le_of_ble_eq_true rfl) d_Exp_foldLogic_34 (w' := wd_Opd cs hx (fun _ => 0) (fun k => if k = 4 then ox else none) (upd fx 8 0) (fun _ _ => 0) (fun _ _ => none)) (ps' := [wd_Opd cs hx (fun _ => 0) (fun k => if k = 4 then ox else none) (upd fx 8 0) (fun _ _ => 0) (fun _ _ => none), wd_Opd cs hy (fun _ => 0) (fun k => if k = 4 then oy else none) fy (fun _ _ => 0) (fun _ _ => none)]) rfl rfl (fun H locs hw => ?_)
          refine lv_goto (tgt := 64) S.x S.b d_Exp_foldLogic_37 (by decide) ?_
          exact px_vret S hr hlk hAe hw (Nat.le_of_ble_eq_true rfl) (Nat.le_of_ble_eq_true rfl) (⟨(upd fx 8 0), rfl, (show (fx 0).toInt = (fx 0).toInt from rfl), (show (fx 3).toInt = (fx 3).toInt from rfl), (show (fx 5).toInt = (fx 5).toInt from rfl)⟩) d_Exp_foldLogic_64
        · have nc8 : ¬ p0.toInt = (0 : Int) := mt (i_eq (x := p0) (y := 0)).mpr c8
          refine lv_iconst (v := 1) S.x S.b d_Exp_foldLogic_29 (by decide) ?_
          refine lv_goto (tgt := 34) S.x S.b d_Exp_foldLogic_30 (by decide) ?_
          refine px_put S k_Opd hT hw 0 0 8 rfl rfl (by decide) m4_235 rfl rfl rfl (Nat.le_of_ble_eq_true rfl) d_Exp_foldLogic_34 (w' := wd_Opd cs hx (fun _ => 0) (fun k => if k = 4 then ox else none) (upd fx 8 1) (fun _ _ => 0) (fun _ _ => none)) (ps' := [wd_Opd cs hx (fun _ => 0) (fun k => if k = 4 then ox else none) (upd fx 8 1) (fun _ _ => 0) (fun _ _ => none), wd_Opd cs hy (fun _ => 0) (fun k => if k = 4 then oy else none) fy (fun _ _ => 0) (fun _ _ => none)]) rfl rfl (fun H locs hw => ?_)
          refine lv_goto (tgt := 64) S.x S.b d_Exp_foldLogic_37 (by decide) ?_
          exact px_vret S hr hlk hAe hw (Nat.le_of_ble_eq_true rfl) (Nat.le_of_ble_eq_true rfl) (⟨(upd fx 8 1), rfl, (show (fx 0).toInt = (fx 0).toInt from rfl), (show (fx 3).toInt = (fx 3).toInt from rfl), (show (fx 5).toInt = (fx 5).toInt from rfl)⟩) d_Exp_foldLogic_64
  · have nc1 : ¬ (fx 2).toInt = (0 : Int) := mt (i_eq (x := (fx 2)) (y := 0)).mpr c1
    exact px_vret S hr hlk hAe hw (Nat.le_of_ble_eq_true rfl) (Nat.le_of_ble_eq_true rfl) (⟨fx, rfl, (show (fx 0).toInt = (fx 0).toInt from rfl), (show (fx 3).toInt = (fx 3).toInt from rfl), (show (fx 5).toInt = (fx 5).toInt from rfl)⟩) d_Exp_foldLogic_7
abbrev b_Exp_fold : ByteArray := prog_3_method_10_code
def y_Exp_fold : MethodName := ⟨"HomeSystem$Expressions", "fold", "(LHomeSystem$Operand;ILHomeSystem$Operand;)V"⟩
theorem d_Exp_fold_0 : decode b_Exp_fold 0 = .ok (.aload_n 0, 1) := by decide +kernel
theorem d_Exp_fold_1 : decode b_Exp_fold 1 = .ok (.getfield 113, 3) := by decide +kernel
theorem d_Exp_fold_4 : decode b_Exp_fold 4 = .ok (.iconst 3, 1) := by decide +kernel
theorem d_Exp_fold_5 : decode b_Exp_fold 5 = .ok (.if_icmp .eq 11, 3) := by decide +kernel
theorem d_Exp_fold_8 : decode b_Exp_fold 8 = .ok (.aload_n 2, 1) := by decide +kernel
theorem d_Exp_fold_9 : decode b_Exp_fold 9 = .ok (.getfield 113, 3) := by decide +kernel
theorem d_Exp_fold_12 : decode b_Exp_fold 12 = .ok (.iconst 3, 1) := by decide +kernel
theorem d_Exp_fold_13 : decode b_Exp_fold 13 = .ok (.if_icmp .ne 11, 3) := by decide +kernel
theorem d_Exp_fold_16 : decode b_Exp_fold 16 = .ok (.aload_n 0, 1) := by decide +kernel
theorem d_Exp_fold_17 : decode b_Exp_fold 17 = .ok (.iconst 3, 1) := by decide +kernel
theorem d_Exp_fold_18 : decode b_Exp_fold 18 = .ok (.putfield 113, 3) := by decide +kernel
theorem d_Exp_fold_21 : decode b_Exp_fold 21 = .ok (.goto 119, 3) := by decide +kernel
theorem d_Exp_fold_24 : decode b_Exp_fold 24 = .ok (.iload_n 1, 1) := by decide +kernel
theorem d_Exp_fold_25 : decode b_Exp_fold 25 = .ok (.sipush 136, 3) := by decide +kernel
theorem d_Exp_fold_28 : decode b_Exp_fold 28 = .ok (.if_icmp .eq 10, 3) := by decide +kernel
theorem d_Exp_fold_31 : decode b_Exp_fold 31 = .ok (.iload_n 1, 1) := by decide +kernel
theorem d_Exp_fold_32 : decode b_Exp_fold 32 = .ok (.sipush 137, 3) := by decide +kernel
theorem d_Exp_fold_35 : decode b_Exp_fold 35 = .ok (.if_icmp .ne 23, 3) := by decide +kernel
theorem d_Exp_fold_38 : decode b_Exp_fold 38 = .ok (.aload_n 0, 1) := by decide +kernel
theorem d_Exp_fold_39 : decode b_Exp_fold 39 = .ok (.iload_n 1, 1) := by decide +kernel
theorem d_Exp_fold_40 : decode b_Exp_fold 40 = .ok (.sipush 137, 3) := by decide +kernel
theorem d_Exp_fold_43 : decode b_Exp_fold 43 = .ok (.if_icmp .ne 7, 3) := by decide +kernel
theorem d_Exp_fold_46 : decode b_Exp_fold 46 = .ok (.iconst 1, 1) := by decide +kernel
theorem d_Exp_fold_47 : decode b_Exp_fold 47 = .ok (.goto 4, 3) := by decide +kernel
theorem d_Exp_fold_50 : decode b_Exp_fold 50 = .ok (.iconst 0, 1) := by decide +kernel
theorem d_Exp_fold_51 : decode b_Exp_fold 51 = .ok (.aload_n 2, 1) := by decide +kernel
theorem d_Exp_fold_52 : decode b_Exp_fold 52 = .ok (.invokestatic 119, 3) := by decide +kernel
theorem d_Exp_fold_55 : decode b_Exp_fold 55 = .ok (.goto 85, 3) := by decide +kernel
theorem d_Exp_fold_58 : decode b_Exp_fold 58 = .ok (.aload_n 0, 1) := by decide +kernel
theorem d_Exp_fold_59 : decode b_Exp_fold 59 = .ok (.getfield 113, 3) := by decide +kernel
theorem d_Exp_fold_62 : decode b_Exp_fold 62 = .ok (.iconst 2, 1) := by decide +kernel
theorem d_Exp_fold_63 : decode b_Exp_fold 63 = .ok (.if_icmp .eq 29, 3) := by decide +kernel
theorem d_Exp_fold_66 : decode b_Exp_fold 66 = .ok (.aload_n 2, 1) := by decide +kernel
theorem d_Exp_fold_67 : decode b_Exp_fold 67 = .ok (.getfield 113, 3) := by decide +kernel
theorem d_Exp_fold_70 : decode b_Exp_fold 70 = .ok (.iconst 2, 1) := by decide +kernel
theorem d_Exp_fold_71 : decode b_Exp_fold 71 = .ok (.if_icmp .eq 21, 3) := by decide +kernel
theorem d_Exp_fold_74 : decode b_Exp_fold 74 = .ok (.aload_n 2, 1) := by decide +kernel
theorem d_Exp_fold_75 : decode b_Exp_fold 75 = .ok (.getfield 113, 3) := by decide +kernel
theorem d_Exp_fold_78 : decode b_Exp_fold 78 = .ok (.ifCond .ne 22, 3) := by decide +kernel
theorem d_Exp_fold_81 : decode b_Exp_fold 81 = .ok (.iload_n 1, 1) := by decide +kernel
theorem d_Exp_fold_82 : decode b_Exp_fold 82 = .ok (.aload_n 2, 1) := by decide +kernel
theorem d_Exp_fold_83 : decode b_Exp_fold 83 = .ok (.getfield 123, 3) := by decide +kernel
theorem d_Exp_fold_86 : decode b_Exp_fold 86 = .ok (.invokestatic 125, 3) := by decide +kernel
theorem d_Exp_fold_89 : decode b_Exp_fold 89 = .ok (.ifCond .eq 11, 3) := by decide +kernel
theorem d_Exp_fold_92 : decode b_Exp_fold 92 = .ok (.aload_n 0, 1) := by decide +kernel
theorem d_Exp_fold_93 : decode b_Exp_fold 93 = .ok (.iconst 2, 1) := by decide +kernel
theorem d_Exp_fold_94 : decode b_Exp_fold 94 = .ok (.putfield 113, 3) := by decide +kernel
theorem d_Exp_fold_97 : decode b_Exp_fold 97 = .ok (.goto 43, 3) := by decide +kernel
theorem d_Exp_fold_100 : decode b_Exp_fold 100 = .ok (.aload_n 0, 1) := by decide +kernel
theorem d_Exp_fold_101 : decode b_Exp_fold 101 = .ok (.getfield 113, 3) := by decide +kernel
theorem d_Exp_fold_104 : decode b_Exp_fold 104 = .ok (.iconst 1, 1) := by decide +kernel
theorem d_Exp_fold_105 : decode b_Exp_fold 105 = .ok (.if_icmp .eq 11, 3) := by decide +kernel
theorem d_Exp_fold_108 : decode b_Exp_fold 108 = .ok (.aload_n 2, 1) := by decide +kernel
theorem d_Exp_fold_109 : decode b_Exp_fold 109 = .ok (.getfield 113, 3) := by decide +kernel
theorem d_Exp_fold_112 : decode b_Exp_fold 112 = .ok (.iconst 1, 1) := by decide +kernel
theorem d_Exp_fold_113 : decode b_Exp_fold 113 = .ok (.if_icmp .ne 11, 3) := by decide +kernel
theorem d_Exp_fold_116 : decode b_Exp_fold 116 = .ok (.aload_n 0, 1) := by decide +kernel
theorem d_Exp_fold_117 : decode b_Exp_fold 117 = .ok (.iconst 1, 1) := by decide +kernel
theorem d_Exp_fold_118 : decode b_Exp_fold 118 = .ok (.putfield 113, 3) := by decide +kernel
theorem d_Exp_fold_121 : decode b_Exp_fold 121 = .ok (.goto 19, 3) := by decide +kernel
theorem d_Exp_fold_124 : decode b_Exp_fold 124 = .ok (.aload_n 0, 1) := by decide +kernel
theorem d_Exp_fold_125 : decode b_Exp_fold 125 = .ok (.iload_n 1, 1) := by decide +kernel
theorem d_Exp_fold_126 : decode b_Exp_fold 126 = .ok (.aload_n 0, 1) := by decide +kernel
theorem d_Exp_fold_127 : decode b_Exp_fold 127 = .ok (.getfield 123, 3) := by decide +kernel
theorem d_Exp_fold_130 : decode b_Exp_fold 130 = .ok (.aload_n 2, 1) := by decide +kernel
theorem d_Exp_fold_131 : decode b_Exp_fold 131 = .ok (.getfield 123, 3) := by decide +kernel
theorem d_Exp_fold_134 : decode b_Exp_fold 134 = .ok (.invokestatic 129, 3) := by decide +kernel
theorem d_Exp_fold_137 : decode b_Exp_fold 137 = .ok (.putfield 123, 3) := by decide +kernel
theorem d_Exp_fold_140 : decode b_Exp_fold 140 = .ok (.return_, 1) := by decide +kernel
theorem q_Exp_fold : px_y y_Exp_fold 3 := by unfold px_y; decide +kernel
set_option maxHeartbeats 4000000 in
set_option maxRecDepth 100000 in
theorem c_ex_fold (l : Launch) (D : va_G) (cs : Nat → ClassId) (hx : Nat) (ox : Option Nat) (fx : Nat → Int32) (hy : Nat) (oy : Option Nat) (fy : Nat → Int32) (p0 : Int32)   : MetV l y_Exp_fold b_Exp_fold 3 D cs 1 40 (0) (0) [.ref hx, .int p0, .ref hy] [wd_Opd cs hx (fun _ => 0) (fun k => if k = 4 then ox else none) fx (fun _ _ => 0) (fun _ _ => none), wd_Opd cs hy (fun _ => 0) (fun k => if k = 4 then oy else none) fy (fun _ _ => 0) (fun _ _ => none)] (fun _ => True) (fun ps => ∃ (fx' : Nat → Int32), (ps = [wd_Opd cs hx (fun _ => 0) (fun k => if k = 4 then ox else none) fx' (fun _ _ => 0) (fun _ _ => none), wd_Opd cs hy (fun _ => 0) (fun k => if k = 4 then oy else none) fy (fun _ _ => 0) (fun _ _ => none)]) ∧ ((fx' 0).toInt = (fx 0).toInt) ∧ ((fx' 3).toInt = (fx 3).toInt) ∧ ((fx' 5).toInt = (fx 5).toInt)) := by
  refine px_enter (by decide) (Nat.le_of_ble_eq_true rfl) ?_
  intro p e s m below meth c A ls hAe S hr hlk hnm hA hT hX hw hl
  replace hl : lv_has ls 3 [(0, .ref hx), (1, .int p0), (2, .ref hy)] := hl
  have lp0 := Int32.le_toInt p0
  have up0 := Int32.toInt_lt p0
  have cst0 : (0 : Int32).toInt = 0 := rfl
  have cst1 : (1 : Int32).toInt = 1 := rfl
  have cst2 : (2 : Int32).toInt = 2 := rfl
  have cst3 : (3 : Int32).toInt = 3 := rfl
  have cst136 : (136 : Int32).toInt = 136 := rfl
  have cst137 : (137 : Int32).toInt = 137 := rfl
  have J140 : ∀ (fx_140 : Nat → Int32) (H : Heap) (locs : List Loc) (ls : Array Slot), ((fx_140 0).toInt = (fx 0).toInt) → ((fx_140 3).toInt = (fx 3).toInt) → ((fx_140 5).toInt = (fx 5).toInt) → pw D A s.heap H locs [wd_Opd cs hx (fun _ => 0) (fun k => if k = 4 then ox else none) fx_140 (fun _ _ => 0) (fun _ _ => none), wd_Opd cs hy (fun _ => 0) (fun k => if k = 4 then oy else none) fy (fun _ _ => 0) (fun _ _ => none)] → lv_has ls 3 [(0, .ref hx), (1, .int p0), (2, .ref hy)] → W p l e { frames := 1, cells := 0, slots := 0, locals := 40 } s m [.ref hx, .int p0, .ref hy].toArray below meth c H locs 0 0 (MQ below (va_Qv (fun ps => ∃ (fx' : Nat → Int32), (ps = [wd_Opd cs hx (fun _ => 0) (fun k => if k = 4 then ox else none) fx' (fun _ _ => 0) (fun _ _ => none), wd_Opd cs hy (fun _ => 0) (fun k => if k = 4 then oy else none) fy (fun _ _ => 0) (fun _ _ => none)]) ∧ ((fx' 0).toInt = (fx 0).toInt) ∧ ((fx' 3).toInt = (fx 3).toInt) ∧ ((fx' 5).toInt = (fx 5).toInt)) (pc_B D (va_A ([wd_Opd cs hx (fun _ => 0) (fun k => if k = 4 then ox else none) fx (fun _ _ => 0) (fun _ _ => none), wd_Opd cs hy (fun _ => 0) (fun k => if k = 4 then oy else none) fy (fun _ _ => 0) (fun _ _ => none)] : List va_W).flatten s.heap.size)) (va_A ([wd_Opd cs hx (fun _ => 0) (fun k => if k = 4 then ox else none) fx (fun _ _ => 0) (fun _ _ => none), wd_Opd cs hy (fun _ => 0) (fun k => if k = 4 then oy else none) fy (fun _ _ => 0) (fun _ _ => none)] : List va_W).flatten s.heap.size)) [.ref hx, .int p0, .ref hy].toArray s 0 0 A) (F0 m 140 ls []) := by
    intro fx_140 H locs ls k140_0 k140_1 k140_2 hw hl
    exact px_vret S hr hlk hAe hw (Nat.le_of_ble_eq_true rfl) (Nat.le_of_ble_eq_true rfl) (⟨fx_140, rfl, (show (fx_140 0).toInt = (fx 0).toInt from by first | exact k140_0 | omega), (show (fx_140 3).toInt = (fx 3).toInt from by first | exact k140_1 | omega), (show (fx_140 5).toInt = (fx 5).toInt from by first | exact k140_2 | omega)⟩) d_Exp_fold_140
  refine lv_aload_n S.x S.b d_Exp_fold_0 rfl (lv_at hl 0 rfl) ?_
  refine px_get S k_Opd hT hw 0 0 2 (v := .int (fx 2)) rfl rfl rfl (by decide) m4_223 d_Exp_fold_1 ?_
  refine lv_iconst (v := 3) S.x S.b d_Exp_fold_4 (by decide) ?_
  refine lv_icmp_eq (tgt := 16) S.x S.b d_Exp_fold_5 (by decide) (fun c1 => ?_) (fun c1 => ?_)
  · have nc1 : (fx 2).toInt = (3 : Int) := (i_eq (x := (fx 2)) (y := 3)).mp c1
    refine lv_aload_n S.x S.b d_Exp_fold_16 rfl (lv_at hl 0 rfl) ?_
    refine lv_iconst (v := 3) S.x S.b d_Exp_fold_17 (by decide) ?_
    refine px_put S k_Opd hT hw 0 0 2 rfl rfl (by decide) m4_223 rfl rfl rfl (Nat.le_of_ble_eq_true rfl) d_Exp_fold_18 (w' := wd_Opd cs hx (fun _ => 0) (fun k => if k = 4 then ox else none) (upd fx 2 3) (fun _ _ => 0) (fun _ _ => none)) (ps' := [wd_Opd cs hx (fun _ => 0) (fun k => if k = 4 then ox else none) (upd fx 2 3) (fun _ _ => 0) (fun _ _ => none), wd_Opd cs hy (fun _ => 0) (fun k => if k = 4 then oy else none) fy (fun _ _ => 0) (fun _ _ => none)]) rfl rfl (fun H locs hw => ?_)
    refine lv_goto (tgt := 140) S.x S.b d_Exp_fold_21 (by decide) ?_
    exact J140 (upd fx 2 3) _ _ ls (show (fx 0).toInt = (fx 0).toInt from rfl) (show (fx 3).toInt = (fx 3).toInt from rfl) (show (fx 5).toInt = (fx 5).toInt from rfl) hw (lv_sub hl [0, 1, 2] rfl)
  · have nc1 : ¬ (fx 2).toInt = (3 : Int) := mt (i_eq (x := (fx 2)) (y := 3)).mpr c1
    refine lv_aload_n S.x S.b d_Exp_fold_8 rfl (lv_at hl 2 rfl) ?_
    refine px_get S k_Opd hT hw 1 0 2 (v := .int (fy 2)) rfl rfl rfl (by decide) m4_223 d_Exp_fold_9 ?_
    refine lv_iconst (v := 3) S.x S.b d_Exp_fold_12 (by decide) ?_
    refine lv_icmp_ne (tgt := 24) S.x S.b d_Exp_fold_13 (by decide) (fun c2 => ?_) (fun c2 => ?_)
    · have nc2 : ¬ (fy 2).toInt = (3 : Int) := mt (i_eq (x := (fy 2)) (y := 3)).mpr c2
      refine lv_iload_n S.x S.b d_Exp_fold_24 rfl (lv_at hl 1 rfl) ?_
      refine lv_sipush (v := 136) S.x S.b d_Exp_fold_25 (by decide) ?_
      refine lv_icmp_eq (tgt := 38) S.x S.b d_Exp_fold_28 (by decide) (fun c3 => ?_) (fun c3 => ?_)
      · have nc3 : p0.toInt = (136 : Int) := (i_eq (x := p0) (y := 136)).mp c3
        refine lv_aload_n S.x S.b d_Exp_fold_38 rfl (lv_at hl 0 rfl) ?_
        refine lv_iload_n S.x S.b d_Exp_fold_39 rfl (lv_at hl 1 rfl) ?_
        refine lv_sipush (v := 137) S.x S.b d_Exp_fold_40 (by decide) ?_
        refine lv_icmp_ne (tgt := 50) S.x S.b d_Exp_fold_43 (by decide) (fun c4 => ?_) (fun c4 => ?_)
        · have nc4 : ¬ p0.toInt = (137 : Int) := mt (i_eq (x := p0) (y := 137)).mpr c4
          refine lv_iconst (v := 0) S.x S.b d_Exp_fold_50 (by decide) ?_
          refine lv_aload_n S.x S.b d_Exp_fold_51 rfl (lv_at hl 2 rfl) ?_
          refine px_callv (pr := []) (px_runS (As := [.ref hx, .int 0, .ref hy]) (rest := []) S (c_ex_foldLogic l D cs hx ox fx hy oy fy 0   _) hT (pr := []) (pcs := [wd_Opd cs hx (fun _ => 0) (fun k => if k = 4 then ox else none) fx (fun _ _ => 0) (fun _ _ => none), wd_Opd cs hy (fun _ => 0) (fun k => if k = 4 then oy else none) fy (fun _ _ => 0) (fun _ _ => none)]) hw px_X.tt m5_94 m5_92 m5_93 m1_17 q_Exp_foldLogic ⟨Nat.le_of_ble_eq_true rfl, Nat.le_of_ble_eq_true rfl⟩ hl.1 rfl (Nat.le_of_ble_eq_true rfl) d_Exp_fold_52 ⟨Nat.le_of_ble_eq_true rfl, Nat.le_of_ble_eq_true rfl⟩) hw hA (fun p7 H locs hp7 hw => ?_)
          obtain ⟨fx6, rfl, e9, e10, e11⟩ := hp7
          replace e9 : (fx6 0).toInt = (fx 0).toInt := e9
          replace e10 : (fx6 3).toInt = (fx 3).toInt := e10
          replace e11 : (fx6 5).toInt = (fx 5).toInt := e11
          replace hw : pw D A s.heap H locs [wd_Opd cs hx (fun _ => 0) (fun k => if k = 4 then ox else none) fx6 (fun _ _ => 0) (fun _ _ => none), wd_Opd cs hy (fun _ => 0) (fun k => if k = 4 then oy else none) fy (fun _ _ => 0) (fun _ _ => none)] := hw
          refine lv_goto (tgt := 140) S.x S.b d_Exp_fold_55 (by decide) ?_
          exact J140 fx6 _ _ ls (show (fx6 0).toInt = (fx 0).toInt from by first | exact e9 | omega) (show (fx6 3).toInt = (fx 3).toInt from by first | exact e10 | omega) (show (fx6 5).toInt = (fx 5).toInt from by first | exact e11 | omega) hw (lv_sub hl [0, 1, 2] rfl)
        · have nc4 : p0.toInt = (137 : Int) := (i_eq (x := p0) (y := 137)).mp c4
          refine lv_iconst (v := 1) S.x S.b d_Exp_fold_46 (by decide) ?_
          refine lv_goto (tgt := 51) S.x S.b d_Exp_fold_47 (by decide) ?_
          refine lv_aload_n S.x S.b d_Exp_fold_51 rfl (lv_at hl 2 rfl) ?_
          refine px_callv (pr := []) (px_runS (As := [.ref hx, .int 1, .ref hy]) (rest := []) S (c_ex_foldLogic l D cs hx ox fx hy oy fy 1   _) hT (pr := []) (pcs := [wd_Opd cs hx (fun _ => 0) (fun k => if k = 4 then ox else none) fx (fun _ _ => 0) (fun _ _ => none), wd_Opd cs hy (fun _ => 0) (fun k => if k = 4 then oy else none) fy (fun _ _ => 0) (fun _ _ => none)]) hw px_X.tt m5_94 m5_92 m5_93 m1_17 q_Exp_foldLogic ⟨Nat.le_of_ble_eq_true rfl, Nat.le_of_ble_eq_true rfl⟩ hl.1 rfl (Nat.le_of_ble_eq_true rfl) d_Exp_fold_52 ⟨Nat.le_of_ble_eq_true rfl, Nat.le_of_ble_eq_true rfl⟩) hw hA (fun p14 H locs hp14 hw => ?_)
          obtain ⟨fx13, rfl, e16, e17, e18⟩ := hp14
          replace e16 : (fx13 0).toInt = (fx 0).toInt := e16
          replace e17 : (fx13 3).toInt = (fx 3).toInt := e17
          replace e18 : (fx13 5).toInt = (fx 5).toInt := e18
          replace hw : pw D A s.heap H locs [wd_Opd cs hx (fun _ => 0) (fun k => if k = 4 then ox else none) fx13 (fun _ _ => 0) (fun _ _ => none), wd_Opd cs hy (fun _ => 0) (fun k => if k = 4 then oy else none) fy (fun _ _ => 0) (fun _ _ => none)] := hw
          refine lv_goto (tgt := 140) S.x S.b d_Exp_fold_55 (by decide) ?_
          exact J140 fx13 _ _ ls (show (fx13 0).toInt = (fx 0).toInt from by first | exact e16 | omega) (show (fx13 3).toInt = (fx 3).toInt from by first | exact e17 | omega) (show (fx13 5).toInt = (fx 5).toInt from by first | exact e18 | omega) hw (lv_sub hl [0, 1, 2] rfl)
      · have nc3 : ¬ p0.toInt = (136 : Int) := mt (i_eq (x := p0) (y := 136)).mpr c3
        refine lv_iload_n S.x S.b d_Exp_fold_31 rfl (lv_at hl 1 rfl) ?_
        refine lv_sipush (v := 137) S.x S.b d_Exp_fold_32 (by decide) ?_
        refine lv_icmp_ne (tgt := 58) S.x S.b d_Exp_fold_35 (by decide) (fun c19 => ?_) (fun c19 => ?_)
        · have nc19 : ¬ p0.toInt = (137 : Int) := mt (i_eq (x := p0) (y := 137)).mpr c19
          refine lv_aload_n S.x S.b d_Exp_fold_58 rfl (lv_at hl 0 rfl) ?_
          refine px_get S k_Opd hT hw 0 0 2 (v := .int (fx 2)) rfl rfl rfl (by decide) m4_223 d_Exp_fold_59 ?_
          refine lv_iconst (v := 2) S.x S.b d_Exp_fold_62 (by decide) ?_
          refine lv_icmp_eq (tgt := 92) S.x S.b d_Exp_fold_63 (by decide) (fun c20 => ?_) (fun c20 => ?_)
          · have nc20 : (fx 2).toInt = (2 : Int) := (i_eq (x := (fx 2)) (y := 2)).mp c20
            refine lv_aload_n S.x S.b d_Exp_fold_92 rfl (lv_at hl 0 rfl) ?_
            refine lv_iconst (v := 2) S.x S.b d_Exp_fold_93 (by decide) ?_
            refine px_put S k_Opd hT hw 0 0 2 rfl rfl (by decide) m4_223 rfl rfl rfl (Nat.le_of_ble_eq_true rfl) d_Exp_fold_94 (w' := wd_Opd cs hx (fun _ => 0) (fun k => if k = 4 then ox else none) (upd fx 2 2) (fun _ _ => 0) (fun _ _ => none)) (ps' := [wd_Opd cs hx (fun _ => 0) (fun k => if k = 4 then ox else none) (upd fx 2 2) (fun _ _ => 0) (fun _ _ => none), wd_Opd cs hy (fun _ => 0) (fun k => if k = 4 then oy else none) fy (fun _ _ => 0) (fun _ _ => none)]) rfl rfl (fun H locs hw => ?_)
            refine lv_goto (tgt := 140) S.x S.b d_Exp_fold_97 (by decide) ?_
            exact J140 (upd fx 2 2) _ _ ls (show (fx 0).toInt = (fx 0).toInt from rfl) (show (fx 3).toInt = (fx 3).toInt from rfl) (show (fx 5).toInt = (fx 5).toInt from rfl) hw (lv_sub hl [0, 1, 2] rfl)
          · have nc20 : ¬ (fx 2).toInt = (2 : Int) := mt (i_eq (x := (fx 2)) (y := 2)).mpr c20
            refine lv_aload_n S.x S.b d_Exp_fold_66 rfl (lv_at hl 2 rfl) ?_
            refine px_get S k_Opd hT hw 1 0 2 (v := .int (fy 2)) rfl rfl rfl (by decide) m4_223 d_Exp_fold_67 ?_
            refine lv_iconst (v := 2) S.x S.b d_Exp_fold_70 (by decide) ?_
            refine lv_icmp_eq (tgt := 92) S.x S.b d_Exp_fold_71 (by decide) (fun c21 => ?_) (fun c21 => ?_)
            · have nc21 : (fy 2).toInt = (2 : Int) := (i_eq (x := (fy 2)) (y := 2)).mp c21
              refine lv_aload_n S.x S.b d_Exp_fold_92 rfl (lv_at hl 0 rfl) ?_
              refine lv_iconst (v := 2) S.x S.b d_Exp_fold_93 (by decide) ?_
              refine px_put S k_Opd hT hw 0 0 2 rfl rfl (by decide) m4_223 rfl rfl rfl (Nat.le_of_ble_eq_true rfl) d_Exp_fold_94 (w' := wd_Opd cs hx (fun _ => 0) (fun k => if k = 4 then ox else none) (upd fx 2 2) (fun _ _ => 0) (fun _ _ => none)) (ps' := [wd_Opd cs hx (fun _ => 0) (fun k => if k = 4 then ox else none) (upd fx 2 2) (fun _ _ => 0) (fun _ _ => none), wd_Opd cs hy (fun _ => 0) (fun k => if k = 4 then oy else none) fy (fun _ _ => 0) (fun _ _ => none)]) rfl rfl (fun H locs hw => ?_)
              refine lv_goto (tgt := 140) S.x S.b d_Exp_fold_97 (by decide) ?_
              exact J140 (upd fx 2 2) _ _ ls (show (fx 0).toInt = (fx 0).toInt from rfl) (show (fx 3).toInt = (fx 3).toInt from rfl) (show (fx 5).toInt = (fx 5).toInt from rfl) hw (lv_sub hl [0, 1, 2] rfl)
            · have nc21 : ¬ (fy 2).toInt = (2 : Int) := mt (i_eq (x := (fy 2)) (y := 2)).mpr c21
              refine lv_aload_n S.x S.b d_Exp_fold_74 rfl (lv_at hl 2 rfl) ?_
              refine px_get S k_Opd hT hw 1 0 2 (v := .int (fy 2)) rfl rfl rfl (by decide) m4_223 d_Exp_fold_75 ?_
              refine lv_if_ne (tgt := 100) S.x S.b d_Exp_fold_78 (by decide) (fun c22 => ?_) (fun c22 => ?_)
              · have nc22 : ¬ (fy 2).toInt = (0 : Int) := mt (i_eq (x := (fy 2)) (y := 0)).mpr c22
                refine lv_aload_n S.x S.b d_Exp_fold_100 rfl (lv_at hl 0 rfl) ?_
                refine px_get S k_Opd hT hw 0 0 2 (v := .int (fx 2)) rfl rfl rfl (by decide) m4_223 d_Exp_fold_101 ?_
                refine lv_iconst (v := 1) S.x S.b d_Exp_fold_104 (by decide) ?_
                refine lv_icmp_eq (tgt := 116) S.x S.b d_Exp_fold_105 (by decide) (fun c23 => ?_) (fun c23 => ?_)
                · have nc23 : (fx 2).toInt = (1 : Int) := (i_eq (x := (fx 2)) (y := 1)).mp c23
                  refine lv_aload_n S.x S.b d_Exp_fold_116 rfl (lv_at hl 0 rfl) ?_
                  refine lv_iconst (v := 1) S.x S.b d_Exp_fold_117 (by decide) ?_
                  refine px_put S k_Opd hT hw 0 0 2 rfl rfl (by decide) m4_223 rfl rfl rfl (Nat.le_of_ble_eq_true rfl) d_Exp_fold_118 (w' := wd_Opd cs hx (fun _ => 0) (fun k => if k = 4 then ox else none) (upd fx 2 1) (fun _ _ => 0) (fun _ _ => none)) (ps' := [wd_Opd cs hx (fun _ => 0) (fun k => if k = 4 then ox else none) (upd fx 2 1) (fun _ _ => 0) (fun _ _ => none), wd_Opd cs hy (fun _ => 0) (fun k => if k = 4 then oy else none) fy (fun _ _ => 0) (fun _ _ => none)]) rfl rfl (fun H locs hw => ?_)
                  refine lv_goto (tgt := 140) S.x S.b d_Exp_fold_121 (by decide) ?_
                  exact J140 (upd fx 2 1) _ _ ls (show (fx 0).toInt = (fx 0).toInt from rfl) (show (fx 3).toInt = (fx 3).toInt from rfl) (show (fx 5).toInt = (fx 5).toInt from rfl) hw (lv_sub hl [0, 1, 2] rfl)
                · have nc23 : ¬ (fx 2).toInt = (1 : Int) := mt (i_eq (x := (fx 2)) (y := 1)).mpr c23
                  refine lv_aload_n S.x S.b d_Exp_fold_108 rfl (lv_at hl 2 rfl) ?_
                  refine px_get S k_Opd hT hw 1 0 2 (v := .int (fy 2)) rfl rfl rfl (by decide) m4_223 d_Exp_fold_109 ?_
                  refine lv_iconst (v := 1) S.x S.b d_Exp_fold_112 (by decide) ?_
                  refine lv_icmp_ne (tgt := 124) S.x S.b d_Exp_fold_113 (by decide) (fun c24 => ?_) (fun c24 => ?_)
                  · have nc24 : ¬ (fy 2).toInt = (1 : Int) := mt (i_eq (x := (fy 2)) (y := 1)).mpr c24
                    refine lv_aload_n S.x S.b d_Exp_fold_124 rfl (lv_at hl 0 rfl) ?_
                    refine lv_iload_n S.x S.b d_Exp_fold_125 rfl (lv_at hl 1 rfl) ?_
                    refine lv_aload_n S.x S.b d_Exp_fold_126 rfl (lv_at hl 0 rfl) ?_
                    refine px_get S k_Opd hT hw 0 0 8 (v := .int (fx 8)) rfl rfl rfl (by decide) m4_235 d_Exp_fold_127 ?_
                    refine lv_aload_n S.x S.b d_Exp_fold_130 rfl (lv_at hl 2 rfl) ?_
                    refine px_get S k_Opd hT hw 1 0 8 (v := .int (fy 8)) rfl rfl rfl (by decide) m4_235 d_Exp_fold_131 ?_
                    refine px_calli (pr := [wd_Opd cs hx (fun _ => 0) (fun k => if k = 4 then ox else none) fx (fun _ _ => 0) (fun _ _ => none), wd_Opd cs hy (fun _ => 0) (fun k => if k = 4 then oy else none) fy (fun _ _ => 0) (fun _ _ => none)]) (px_runSN (As := [.int p0, .int (fx 8), .int (fy 8)]) (rest := [.ref hx]) S (c_Hs_reckon l D cs  p0 (fx 8) (fy 8)   _) hT (pr := [wd_Opd cs hx (fun _ => 0) (fun k => if k = 4 then ox else none) fx (fun _ _ => 0) (fun _ _ => none), wd_Opd cs hy (fun _ => 0) (fun k => if k = 4 then oy else none) fy (fun _ _ => 0) (fun _ _ => none)]) (pcs := []) hw px_X.tt m5_100 m5_98n m5_99 m1_1 q_Hs_reckon ⟨Nat.le_of_ble_eq_true rfl, Nat.le_of_ble_eq_true rfl⟩ hl.1 rfl (Nat.le_of_ble_eq_true rfl) d_Exp_fold_134 ⟨Nat.le_of_ble_eq_true rfl, Nat.le_of_ble_eq_true rfl⟩) hw hA (fun v26 p25 H locs hp25 hw => ?_)
                    subst hp25
                    replace hw : pw D A s.heap H locs [wd_Opd cs hx (fun _ => 0) (fun k => if k = 4 then ox else none) fx (fun _ _ => 0) (fun _ _ => none), wd_Opd cs hy (fun _ => 0) (fun k => if k = 4 then oy else none) fy (fun _ _ => 0) (fun _ _ => none)] := hw
                    have lv26 := Int32.le_toInt v26
                    have uv26 := Int32.toInt_lt v26
                    refine px_put S k_Opd hT hw 0 0 8 rfl rfl (by decide) m4_235 rfl rfl rfl (Nat.le_of_ble_eq_true rfl) d_Exp_fold_137 (w' := wd_Opd cs hx (fun _ => 0) (fun k => if k = 4 then ox else none) (upd fx 8 v26) (fun _ _ => 0) (fun _ _ => none)) (ps' := [wd_Opd cs hx (fun _ => 0) (fun k => if k = 4 then ox else none) (upd fx 8 v26) (fun _ _ => 0) (fun _ _ => none), wd_Opd cs hy (fun _ => 0) (fun k => if k = 4 then oy else none) fy (fun _ _ => 0) (fun _ _ => none)]) rfl rfl (fun H locs hw => ?_)
                    exact J140 (upd fx 8 v26) _ _ ls (show (fx 0).toInt = (fx 0).toInt from rfl) (show (fx 3).toInt = (fx 3).toInt from rfl) (show (fx 5).toInt = (fx 5).toInt from rfl) hw (lv_sub hl [0, 1, 2] rfl)
                  · have nc24 : (fy 2).toInt = (1 : Int) := (i_eq (x := (fy 2)) (y := 1)).mp c24
                    refine lv_aload_n S.x S.b d_Exp_fold_116 rfl (lv_at hl 0 rfl) ?_
                    refine lv_iconst (v := 1) S.x S.b d_Exp_fold_117 (by decide) ?_
                    refine px_put S k_Opd hT hw 0 0 2 rfl rfl (by decide) m4_223 rfl rfl rfl (Nat.le_of_ble_eq_true rfl) d_Exp_fold_118 (w' := wd_Opd cs hx (fun _ => 0) (fun k => if k = 4 then ox else none) (upd fx 2 1) (fun _ _ => 0) (fun _ _ => none)) (ps' := [wd_Opd cs hx (fun _ => 0) (fun k => if k = 4 then ox else none) (upd fx 2 1) (fun _ _ => 0) (fun _ _ => none), wd_Opd cs hy (fun _ => 0) (fun k => if k = 4 then oy else none) fy (fun _ _ => 0) (fun _ _ => none)]) rfl rfl (fun H locs hw => ?_)
                    refine lv_goto (tgt := 140) S.x S.b d_Exp_fold_121 (by decide) ?_
                    exact J140 (upd fx 2 1) _ _ ls (show (fx 0).toInt = (fx 0).toInt from rfl) (show (fx 3).toInt = (fx 3).toInt from rfl) (show (fx 5).toInt = (fx 5).toInt from rfl) hw (lv_sub hl [0, 1, 2] rfl)
              · have nc22 : (fy 2).toInt = (0 : Int) := (i_eq (x := (fy 2)) (y := 0)).mp c22
                refine lv_iload_n S.x S.b d_Exp_fold_81 rfl (lv_at hl 1 rfl) ?_
                refine lv_aload_n S.x S.b d_Exp_fold_82 rfl (lv_at hl 2 rfl) ?_
                refine px_get S k_Opd hT hw 1 0 8 (v := .int (fy 8)) rfl rfl rfl (by decide) m4_235 d_Exp_fold_83 ?_
                refine px_calli (pr := [wd_Opd cs hx (fun _ => 0) (fun k => if k = 4 then ox else none) fx (fun _ _ => 0) (fun _ _ => none), wd_Opd cs hy (fun _ => 0) (fun k => if k = 4 then oy else none) fy (fun _ _ => 0) (fun _ _ => none)]) (px_runSN (As := [.int p0, .int (fy 8)]) (rest := []) S (c_Hs_byZero l D cs  p0 (fy 8)   _) hT (pr := [wd_Opd cs hx (fun _ => 0) (fun k => if k = 4 then ox else none) fx (fun _ _ => 0) (fun _ _ => none), wd_Opd cs hy (fun _ => 0) (fun k => if k = 4 then oy else none) fy (fun _ _ => 0) (fun _ _ => none)]) (pcs := []) hw px_X.tt m5_97 m5_95n m5_96 m1_1 q_Hs_byZero ⟨Nat.le_of_ble_eq_true rfl, Nat.le_of_ble_eq_true rfl⟩ hl.1 rfl (Nat.le_of_ble_eq_true rfl) d_Exp_fold_86 ⟨Nat.le_of_ble_eq_true rfl, Nat.le_of_ble_eq_true rfl⟩) hw hA (fun v28 p27 H locs hp27 hw => ?_)
                obtain ⟨rfl, e29⟩ := hp27
                have e29 := z_rng e29
                replace hw : pw D A s.heap H locs [wd_Opd cs hx (fun _ => 0) (fun k => if k = 4 then ox else none) fx (fun _ _ => 0) (fun _ _ => none), wd_Opd cs hy (fun _ => 0) (fun k => if k = 4 then oy else none) fy (fun _ _ => 0) (fun _ _ => none)] := hw
                have lv28 := Int32.le_toInt v28
                have uv28 := Int32.toInt_lt v28
                refine lv_if_eq (tgt := 100) S.x S.b d_Exp_fold_89 (by decide) (fun c30 => ?_) (fun c30 => ?_)
                · have nc30 : v28.toInt = (0 : Int) := (i_eq (x := v28) (y := 0)).mp c30
                  refine lv_aload_n S.x S.b d_Exp_fold_100 rfl (lv_at hl 0 rfl) ?_
                  refine px_get S k_Opd hT hw 0 0 2 (v := .int (fx 2)) rfl rfl rfl (by decide) m4_223 d_Exp_fold_101 ?_
                  refine lv_iconst (v := 1) S.x S.b d_Exp_fold_104 (by decide) ?_
                  refine lv_icmp_eq (tgt := 116) S.x S.b d_Exp_fold_105 (by decide) (fun c31 => ?_) (fun c31 => ?_)
                  · have nc31 : (fx 2).toInt = (1 : Int) := (i_eq (x := (fx 2)) (y := 1)).mp c31
                    refine lv_aload_n S.x S.b d_Exp_fold_116 rfl (lv_at hl 0 rfl) ?_
                    refine lv_iconst (v := 1) S.x S.b d_Exp_fold_117 (by decide) ?_
                    refine px_put S k_Opd hT hw 0 0 2 rfl rfl (by decide) m4_223 rfl rfl rfl (Nat.le_of_ble_eq_true rfl) d_Exp_fold_118 (w' := wd_Opd cs hx (fun _ => 0) (fun k => if k = 4 then ox else none) (upd fx 2 1) (fun _ _ => 0) (fun _ _ => none)) (ps' := [wd_Opd cs hx (fun _ => 0) (fun k => if k = 4 then ox else none) (upd fx 2 1) (fun _ _ => 0) (fun _ _ => none), wd_Opd cs hy (fun _ => 0) (fun k => if k = 4 then oy else none) fy (fun _ _ => 0) (fun _ _ => none)]) rfl rfl (fun H locs hw => ?_)
                    refine lv_goto (tgt := 140) S.x S.b d_Exp_fold_121 (by decide) ?_
                    exact J140 (upd fx 2 1) _ _ ls (show (fx 0).toInt = (fx 0).toInt from rfl) (show (fx 3).toInt = (fx 3).toInt from rfl) (show (fx 5).toInt = (fx 5).toInt from rfl) hw (lv_sub hl [0, 1, 2] rfl)
                  · have nc31 : ¬ (fx 2).toInt = (1 : Int) := mt (i_eq (x := (fx 2)) (y := 1)).mpr c31
                    refine lv_aload_n S.x S.b d_Exp_fold_108 rfl (lv_at hl 2 rfl) ?_
                    refine px_get S k_Opd hT hw 1 0 2 (v := .int (fy 2)) rfl rfl rfl (by decide) m4_223 d_Exp_fold_109 ?_
                    refine lv_iconst (v := 1) S.x S.b d_Exp_fold_112 (by decide) ?_
                    refine lv_icmp_ne (tgt := 124) S.x S.b d_Exp_fold_113 (by decide) (fun c32 => ?_) (fun c32 => ?_)
                    · have nc32 : ¬ (fy 2).toInt = (1 : Int) := mt (i_eq (x := (fy 2)) (y := 1)).mpr c32
                      refine lv_aload_n S.x S.b d_Exp_fold_124 rfl (lv_at hl 0 rfl) ?_
                      refine lv_iload_n S.x S.b d_Exp_fold_125 rfl (lv_at hl 1 rfl) ?_
                      refine lv_aload_n S.x S.b d_Exp_fold_126 rfl (lv_at hl 0 rfl) ?_
                      refine px_get S k_Opd hT hw 0 0 8 (v := .int (fx 8)) rfl rfl rfl (by decide) m4_235 d_Exp_fold_127 ?_
                      refine lv_aload_n S.x S.b d_Exp_fold_130 rfl (lv_at hl 2 rfl) ?_
                      refine px_get S k_Opd hT hw 1 0 8 (v := .int (fy 8)) rfl rfl rfl (by decide) m4_235 d_Exp_fold_131 ?_
                      refine px_calli (pr := [wd_Opd cs hx (fun _ => 0) (fun k => if k = 4 then ox else none) fx (fun _ _ => 0) (fun _ _ => none), wd_Opd cs hy (fun _ => 0) (fun k => if k = 4 then oy else none) fy (fun _ _ => 0) (fun _ _ => none)]) (px_runSN (As := [.int p0, .int (fx 8), .int (fy 8)]) (rest := [.ref hx]) S (c_Hs_reckon l D cs  p0 (fx 8) (fy 8)   _) hT (pr := [wd_Opd cs hx (fun _ => 0) (fun k => if k = 4 then ox else none) fx (fun _ _ => 0) (fun _ _ => none), wd_Opd cs hy (fun _ => 0) (fun k => if k = 4 then oy else none) fy (fun _ _ => 0) (fun _ _ => none)]) (pcs := []) hw px_X.tt m5_100 m5_98n m5_99 m1_1 q_Hs_reckon ⟨Nat.le_of_ble_eq_true rfl, Nat.le_of_ble_eq_true rfl⟩ hl.1 rfl (Nat.le_of_ble_eq_true rfl) d_Exp_fold_134 ⟨Nat.le_of_ble_eq_true rfl, Nat.le_of_ble_eq_true rfl⟩) hw hA (fun v34 p33 H locs hp33 hw => ?_)
                      subst hp33
                      replace hw : pw D A s.heap H locs [wd_Opd cs hx (fun _ => 0) (fun k => if k = 4 then ox else none) fx (fun _ _ => 0) (fun _ _ => none), wd_Opd cs hy (fun _ => 0) (fun k => if k = 4 then oy else none) fy (fun _ _ => 0) (fun _ _ => none)] := hw
                      have lv34 := Int32.le_toInt v34
                      have uv34 := Int32.toInt_lt v34
                      refine px_put S k_Opd hT hw 0 0 8 rfl rfl (by decide) m4_235 rfl rfl rfl (Nat.le_of_ble_eq_true rfl) d_Exp_fold_137 (w' := wd_Opd cs hx (fun _ => 0) (fun k => if k = 4 then ox else none) (upd fx 8 v34) (fun _ _ => 0) (fun _ _ => none)) (ps' := [wd_Opd cs hx (fun _ => 0) (fun k => if k = 4 then ox else none) (upd fx 8 v34) (fun _ _ => 0) (fun _ _ => none), wd_Opd cs hy (fun _ => 0) (fun k => if k = 4 then oy else none) fy (fun _ _ => 0) (fun _ _ => none)]) rfl rfl (fun H locs hw => ?_)
                      exact J140 (upd fx 8 v34) _ _ ls (show (fx 0).toInt = (fx 0).toInt from rfl) (show (fx 3).toInt = (fx 3).toInt from rfl) (show (fx 5).toInt = (fx 5).toInt from rfl) hw (lv_sub hl [0, 1, 2] rfl)
                    · have nc32 : (fy 2).toInt = (1 : Int) := (i_eq (x := (fy 2)) (y := 1)).mp c32
                      refine lv_aload_n S.x S.b d_Exp_fold_116 rfl (lv_at hl 0 rfl) ?_
                      refine lv_iconst (v := 1) S.x S.b d_Exp_fold_117 (by decide) ?_
                      refine px_put S k_Opd hT hw 0 0 2 rfl rfl (by decide) m4_223 rfl rfl rfl (Nat.le_of_ble_eq_true rfl) d_Exp_fold_118 (w' := wd_Opd cs hx (fun _ => 0) (fun k => if k = 4 then ox else none) (upd fx 2 1) (fun _ _ => 0) (fun _ _ => none)) (ps' := [wd_Opd cs hx (fun _ => 0) (fun k => if k = 4 then ox else none) (upd fx 2 1) (fun _ _ => 0) (fun _ _ => none), wd_Opd cs hy (fun _ => 0) (fun k => if k = 4 then oy else none) fy (fun _ _ => 0) (fun _ _ => none)]) rfl rfl (fun H locs hw => ?_)
                      refine lv_goto (tgt := 140) S.x S.b d_Exp_fold_121 (by decide) ?_
                      exact J140 (upd fx 2 1) _ _ ls (show (fx 0).toInt = (fx 0).toInt from rfl) (show (fx 3).toInt = (fx 3).toInt from rfl) (show (fx 5).toInt = (fx 5).toInt from rfl) hw (lv_sub hl [0, 1, 2] rfl)
                · have nc30 : ¬ v28.toInt = (0 : Int) := mt (i_eq (x := v28) (y := 0)).mpr c30
                  refine lv_aload_n S.x S.b d_Exp_fold_92 rfl (lv_at hl 0 rfl) ?_
                  refine lv_iconst (v := 2) S.x S.b d_Exp_fold_93 (by decide) ?_
                  refine px_put S k_Opd hT hw 0 0 2 rfl rfl (by decide) m4_223 rfl rfl rfl (Nat.le_of_ble_eq_true rfl) d_Exp_fold_94 (w' := wd_Opd cs hx (fun _ => 0) (fun k => if k = 4 then ox else none) (upd fx 2 2) (fun _ _ => 0) (fun _ _ => none)) (ps' := [wd_Opd cs hx (fun _ => 0) (fun k => if k = 4 then ox else none) (upd fx 2 2) (fun _ _ => 0) (fun _ _ => none), wd_Opd cs hy (fun _ => 0) (fun k => if k = 4 then oy else none) fy (fun _ _ => 0) (fun _ _ => none)]) rfl rfl (fun H locs hw => ?_)
                  refine lv_goto (tgt := 140) S.x S.b d_Exp_fold_97 (by decide) ?_
                  exact J140 (upd fx 2 2) _ _ ls (show (fx 0).toInt = (fx 0).toInt from rfl) (show (fx 3).toInt = (fx 3).toInt from rfl) (show (fx 5).toInt = (fx 5).toInt from rfl) hw (lv_sub hl [0, 1, 2] rfl)
        · have nc19 : p0.toInt = (137 : Int) := (i_eq (x := p0) (y := 137)).mp c19
          refine lv_aload_n S.x S.b d_Exp_fold_38 rfl (lv_at hl 0 rfl) ?_
          refine lv_iload_n S.x S.b d_Exp_fold_39 rfl (lv_at hl 1 rfl) ?_
          refine lv_sipush (v := 137) S.x S.b d_Exp_fold_40 (by decide) ?_
          refine lv_icmp_ne (tgt := 50) S.x S.b d_Exp_fold_43 (by decide) (fun c35 => ?_) (fun c35 => ?_)
          · have nc35 : ¬ p0.toInt = (137 : Int) := mt (i_eq (x := p0) (y := 137)).mpr c35
            refine lv_iconst (v := 0) S.x S.b d_Exp_fold_50 (by decide) ?_
            refine lv_aload_n S.x S.b d_Exp_fold_51 rfl (lv_at hl 2 rfl) ?_
            refine px_callv (pr := []) (px_runS (As := [.ref hx, .int 0, .ref hy]) (rest := []) S (c_ex_foldLogic l D cs hx ox fx hy oy fy 0   _) hT (pr := []) (pcs := [wd_Opd cs hx (fun _ => 0) (fun k => if k = 4 then ox else none) fx (fun _ _ => 0) (fun _ _ => none), wd_Opd cs hy (fun _ => 0) (fun k => if k = 4 then oy else none) fy (fun _ _ => 0) (fun _ _ => none)]) hw px_X.tt m5_94 m5_92 m5_93 m1_17 q_Exp_foldLogic ⟨Nat.le_of_ble_eq_true rfl, Nat.le_of_ble_eq_true rfl⟩ hl.1 rfl (Nat.le_of_ble_eq_true rfl) d_Exp_fold_52 ⟨Nat.le_of_ble_eq_true rfl, Nat.le_of_ble_eq_true rfl⟩) hw hA (fun p38 H locs hp38 hw => ?_)
            obtain ⟨fx37, rfl, e40, e41, e42⟩ := hp38
            replace e40 : (fx37 0).toInt = (fx 0).toInt := e40
            replace e41 : (fx37 3).toInt = (fx 3).toInt := e41
            replace e42 : (fx37 5).toInt = (fx 5).toInt := e42
            replace hw : pw D A s.heap H locs [wd_Opd cs hx (fun _ => 0) (fun k => if k = 4 then ox else none) fx37 (fun _ _ => 0) (fun _ _ => none), wd_Opd cs hy (fun _ => 0) (fun k => if k = 4 then oy else none) fy (fun _ _ => 0) (fun _ _ => none)] := hw
            refine lv_goto (tgt := 140) S.x S.b d_Exp_fold_55 (by decide) ?_
            exact J140 fx37 _ _ ls (show (fx37 0).toInt = (fx 0).toInt from by first | exact e40 | omega) (show (fx37 3).toInt = (fx 3).toInt from by first | exact e41 | omega) (show (fx37 5).toInt = (fx 5).toInt from by first | exact e42 | omega) hw (lv_sub hl [0, 1, 2] rfl)
          · have nc35 : p0.toInt = (137 : Int) := (i_eq (x := p0) (y := 137)).mp c35
            refine lv_iconst (v := 1) S.x S.b d_Exp_fold_46 (by decide) ?_
            refine lv_goto (tgt := 51) S.x S.b d_Exp_fold_47 (by decide) ?_
            refine lv_aload_n S.x S.b d_Exp_fold_51 rfl (lv_at hl 2 rfl) ?_
            refine px_callv (pr := []) (px_runS (As := [.ref hx, .int 1, .ref hy]) (rest := []) S (c_ex_foldLogic l D cs hx ox fx hy oy fy 1   _) hT (pr := []) (pcs := [wd_Opd cs hx (fun _ => 0) (fun k => if k = 4 then ox else none) fx (fun _ _ => 0) (fun _ _ => none), wd_Opd cs hy (fun _ => 0) (fun k => if k = 4 then oy else none) fy (fun _ _ => 0) (fun _ _ => none)]) hw px_X.tt m5_94 m5_92 m5_93 m1_17 q_Exp_foldLogic ⟨Nat.le_of_ble_eq_true rfl, Nat.le_of_ble_eq_true rfl⟩ hl.1 rfl (Nat.le_of_ble_eq_true rfl) d_Exp_fold_52 ⟨Nat.le_of_ble_eq_true rfl, Nat.le_of_ble_eq_true rfl⟩) hw hA (fun p45 H locs hp45 hw => ?_)
            obtain ⟨fx44, rfl, e47, e48, e49⟩ := hp45
            replace e47 : (fx44 0).toInt = (fx 0).toInt := e47
            replace e48 : (fx44 3).toInt = (fx 3).toInt := e48
            replace e49 : (fx44 5).toInt = (fx 5).toInt := e49
            replace hw : pw D A s.heap H locs [wd_Opd cs hx (fun _ => 0) (fun k => if k = 4 then ox else none) fx44 (fun _ _ => 0) (fun _ _ => none), wd_Opd cs hy (fun _ => 0) (fun k => if k = 4 then oy else none) fy (fun _ _ => 0) (fun _ _ => none)] := hw
            refine lv_goto (tgt := 140) S.x S.b d_Exp_fold_55 (by decide) ?_
            exact J140 fx44 _ _ ls (show (fx44 0).toInt = (fx 0).toInt from by first | exact e47 | omega) (show (fx44 3).toInt = (fx 3).toInt from by first | exact e48 | omega) (show (fx44 5).toInt = (fx 5).toInt from by first | exact e49 | omega) hw (lv_sub hl [0, 1, 2] rfl)
    · have nc2 : (fy 2).toInt = (3 : Int) := (i_eq (x := (fy 2)) (y := 3)).mp c2
      refine lv_aload_n S.x S.b d_Exp_fold_16 rfl (lv_at hl 0 rfl) ?_
      refine lv_iconst (v := 3) S.x S.b d_Exp_fold_17 (by decide) ?_
      refine px_put S k_Opd hT hw 0 0 2 rfl rfl (by decide) m4_223 rfl rfl rfl (Nat.le_of_ble_eq_true rfl) d_Exp_fold_18 (w' := wd_Opd cs hx (fun _ => 0) (fun k => if k = 4 then ox else none) (upd fx 2 3) (fun _ _ => 0) (fun _ _ => none)) (ps' := [wd_Opd cs hx (fun _ => 0) (fun k => if k = 4 then ox else none) (upd fx 2 3) (fun _ _ => 0) (fun _ _ => none), wd_Opd cs hy (fun _ => 0) (fun k => if k = 4 then oy else none) fy (fun _ _ => 0) (fun _ _ => none)]) rfl rfl (fun H locs hw => ?_)
      refine lv_goto (tgt := 140) S.x S.b d_Exp_fold_21 (by decide) ?_
      exact J140 (upd fx 2 3) _ _ ls (show (fx 0).toInt = (fx 0).toInt from rfl) (show (fx 3).toInt = (fx 3).toInt from rfl) (show (fx 5).toInt = (fx 5).toInt from rfl) hw (lv_sub hl [0, 1, 2] rfl)
abbrev b_Exp_chain : ByteArray := prog_3_method_12_code
def y_Exp_chain : MethodName := ⟨"HomeSystem$Expressions", "chain", "(LHomeSystem$Operand;ILHomeSystem$Operand;)V"⟩
theorem d_Exp_chain_0 : decode b_Exp_chain 0 = .ok (.aload_n 0, 1) := by decide +kernel
theorem d_Exp_chain_1 : decode b_Exp_chain 1 = .ok (.aload_n 0, 1) := by decide +kernel
theorem d_Exp_chain_2 : decode b_Exp_chain 2 = .ok (.getfield 133, 3) := by decide +kernel
theorem d_Exp_chain_5 : decode b_Exp_chain 5 = .ok (.iload_n 1, 1) := by decide +kernel
theorem d_Exp_chain_6 : decode b_Exp_chain 6 = .ok (.if_icmp .ne 10, 3) := by decide +kernel
theorem d_Exp_chain_9 : decode b_Exp_chain 9 = .ok (.aload_n 0, 1) := by decide +kernel
theorem d_Exp_chain_10 : decode b_Exp_chain 10 = .ok (.getfield 41, 3) := by decide +kernel
theorem d_Exp_chain_13 : decode b_Exp_chain 13 = .ok (.goto 9, 3) := by decide +kernel
theorem d_Exp_chain_16 : decode b_Exp_chain 16 = .ok (.aload_n 0, 1) := by decide +kernel
theorem d_Exp_chain_17 : decode b_Exp_chain 17 = .ok (.getfield 41, 3) := by decide +kernel
theorem d_Exp_chain_20 : decode b_Exp_chain 20 = .ok (.iconst 1, 1) := by decide +kernel
theorem d_Exp_chain_21 : decode b_Exp_chain 21 = .ok (.iadd, 1) := by decide +kernel
theorem d_Exp_chain_22 : decode b_Exp_chain 22 = .ok (.aload_n 2, 1) := by decide +kernel
theorem d_Exp_chain_23 : decode b_Exp_chain 23 = .ok (.getfield 41, 3) := by decide +kernel
theorem d_Exp_chain_26 : decode b_Exp_chain 26 = .ok (.iconst 1, 1) := by decide +kernel
theorem d_Exp_chain_27 : decode b_Exp_chain 27 = .ok (.iadd, 1) := by decide +kernel
theorem d_Exp_chain_28 : decode b_Exp_chain 28 = .ok (.invokestatic 135, 3) := by decide +kernel
theorem d_Exp_chain_31 : decode b_Exp_chain 31 = .ok (.putfield 41, 3) := by decide +kernel
theorem d_Exp_chain_34 : decode b_Exp_chain 34 = .ok (.aload_n 0, 1) := by decide +kernel
theorem d_Exp_chain_35 : decode b_Exp_chain 35 = .ok (.aload_n 0, 1) := by decide +kernel
theorem d_Exp_chain_36 : decode b_Exp_chain 36 = .ok (.getfield 141, 3) := by decide +kernel
theorem d_Exp_chain_39 : decode b_Exp_chain 39 = .ok (.aload_n 2, 1) := by decide +kernel
theorem d_Exp_chain_40 : decode b_Exp_chain 40 = .ok (.getfield 141, 3) := by decide +kernel
theorem d_Exp_chain_43 : decode b_Exp_chain 43 = .ok (.iconst 1, 1) := by decide +kernel
theorem d_Exp_chain_44 : decode b_Exp_chain 44 = .ok (.iadd, 1) := by decide +kernel
theorem d_Exp_chain_45 : decode b_Exp_chain 45 = .ok (.invokestatic 135, 3) := by decide +kernel
theorem d_Exp_chain_48 : decode b_Exp_chain 48 = .ok (.putfield 141, 3) := by decide +kernel
theorem d_Exp_chain_51 : decode b_Exp_chain 51 = .ok (.aload_n 0, 1) := by decide +kernel
theorem d_Exp_chain_52 : decode b_Exp_chain 52 = .ok (.iload_n 1, 1) := by decide +kernel
theorem d_Exp_chain_53 : decode b_Exp_chain 53 = .ok (.putfield 133, 3) := by decide +kernel
theorem d_Exp_chain_56 : decode b_Exp_chain 56 = .ok (.return_, 1) := by decide +kernel
theorem q_Exp_chain : px_y y_Exp_chain 3 := by unfold px_y; decide +kernel
set_option maxHeartbeats 4000000 in
set_option maxRecDepth 100000 in
theorem c_ex_chain (l : Launch) (D : va_G) (cs : Nat → ClassId) (hx : Nat) (ox : Option Nat) (fx : Nat → Int32) (hy : Nat) (oy : Option Nat) (fy : Nat → Int32) (p0 : Int32)  (g0 : 1 ≤ (fx 5).toInt) (g1 : (fx 5).toInt ≤ 1000000) (g2 : 1 ≤ (fy 5).toInt) (g3 : (fy 5).toInt ≤ 1000000) : MetV l y_Exp_chain b_Exp_chain 3 D cs 1 40 (0) (0) [.ref hx, .int p0, .ref hy] [wd_Opd cs hx (fun _ => 0) (fun k => if k = 4 then ox else none) fx (fun _ _ => 0) (fun _ _ => none), wd_Opd cs hy (fun _ => 0) (fun k => if k = 4 then oy else none) fy (fun _ _ => 0) (fun _ _ => none)] (fun _ => True) (fun ps => ∃ (fx' : Nat → Int32), (ps = [wd_Opd cs hx (fun _ => 0) (fun k => if k = 4 then ox else none) fx' (fun _ _ => 0) (fun _ _ => none), wd_Opd cs hy (fun _ => 0) (fun k => if k = 4 then oy else none) fy (fun _ _ => 0) (fun _ _ => none)]) ∧ ((fx' 0).toInt = (fx 0).toInt) ∧ ((fx' 3).toInt = (fx 3).toInt) ∧ (1 ≤ (fx' 5).toInt) ∧ ((fx' 5).toInt ≤ (fx 5).toInt + 1 ∨ (fx' 5).toInt ≤ (fy 5).toInt + 1)) := by
  refine px_enter (by decide) (Nat.le_of_ble_eq_true rfl) ?_
  intro p e s m below meth c A ls hAe S hr hlk hnm hA hT hX hw hl
  replace hl : lv_has ls 3 [(0, .ref hx), (1, .int p0), (2, .ref hy)] := hl
  have lp0 := Int32.le_toInt p0
  have up0 := Int32.toInt_lt p0
  have cst1 : (1 : Int32).toInt = 1 := rfl
  refine lv_aload_n S.x S.b d_Exp_chain_0 rfl (lv_at hl 0 rfl) ?_
  refine lv_aload_n S.x S.b d_Exp_chain_1 rfl (lv_at hl 0 rfl) ?_
  refine px_get S k_Opd hT hw 0 0 7 (v := .int (fx 7)) rfl rfl rfl (by decide) m4_233 d_Exp_chain_2 ?_
  refine lv_iload_n S.x S.b d_Exp_chain_5 rfl (lv_at hl 1 rfl) ?_
  refine lv_icmp_ne (tgt := 16) S.x S.b d_Exp_chain_6 (by decide) (fun c1 => ?_) (fun c1 => ?_)
  · have nc1 : ¬ (fx 7).toInt = p0.toInt := mt (i_eq (x := (fx 7)) (y := p0)).mpr c1
    refine lv_aload_n S.x S.b d_Exp_chain_16 rfl (lv_at hl 0 rfl) ?_
    refine px_get S k_Opd hT hw 0 0 5 (v := .int (fx 5)) rfl rfl rfl (by decide) m4_228 d_Exp_chain_17 ?_
    refine lv_iconst (v := 1) S.x S.b d_Exp_chain_20 (by decide) ?_
    refine lv_iadd S.x S.b d_Exp_chain_21 ?_
    have lr2 := Int32.le_toInt (fx 5)
    have ur2 := Int32.toInt_lt (fx 5)
    refine lv_topi (fun z3 ez3 => ?_)
    have tz3 : z3.toInt = ((fx 5).toInt + (1 : Int) + 2147483648) % 4294967296 - 2147483648 := by rw [ez3]; exact i_add (fx 5) 1
    have lz3 := Int32.le_toInt z3
    have uz3 := Int32.toInt_lt z3
    try replace tz3 : z3.toInt = (fx 5).toInt + (1 : Int) := by omega
    refine lv_aload_n S.x S.b d_Exp_chain_22 rfl (lv_at hl 2 rfl) ?_
    refine px_get S k_Opd hT hw 1 0 5 (v := .int (fy 5)) rfl rfl rfl (by decide) m4_228 d_Exp_chain_23 ?_
    refine lv_iconst (v := 1) S.x S.b d_Exp_chain_26 (by decide) ?_
    refine lv_iadd S.x S.b d_Exp_chain_27 ?_
    have lr4 := Int32.le_toInt (fy 5)
    have ur4 := Int32.toInt_lt (fy 5)
    refine lv_topi (fun z5 ez5 => ?_)
    have tz5 : z5.toInt = ((fy 5).toInt + (1 : Int) + 2147483648) % 4294967296 - 2147483648 := by rw [ez5]; exact i_add (fy 5) 1
    have lz5 := Int32.le_toInt z5
    have uz5 := Int32.toInt_lt z5
    try replace tz5 : z5.toInt = (fy 5).toInt + (1 : Int) := by omega
    refine va_mmax S.x S.b (by rw [S.ml]; exact hl.1.symm) S.own (S.w m5_43) (S.w m2_26) (S.w m1_13) (S.w m2_27) (Nat.le_of_ble_eq_true rfl) (Nat.le_of_ble_eq_true rfl) (Nat.zero_le _) (Nat.zero_le _) d_Exp_chain_28 ?_
    refine lv_topi (fun z6 ez6 => ?_)
    have tz6 := i_max z3 z5 ez6
    have lz6 := Int32.le_toInt z6
    have uz6 := Int32.toInt_lt z6
    refine px_put S k_Opd hT hw 0 0 5 rfl rfl (by decide) m4_228 rfl rfl rfl (Nat.le_of_ble_eq_true rfl) d_Exp_chain_31 (w' := wd_Opd cs hx (fun _ => 0) (fun k => if k = 4 then ox else none) (upd fx 5 z6) (fun _ _ => 0) (fun _ _ => none)) (ps' := [wd_Opd cs hx (fun _ => 0) (fun k => if k = 4 then ox else none) (upd fx 5 z6) (fun _ _ => 0) (fun _ _ => none), wd_Opd cs hy (fun _ => 0) (fun k => if k = 4 then oy else none) fy (fun _ _ => 0) (fun _ _ => none)]) rfl rfl (fun H locs hw => ?_)
    refine lv_aload_n S.x S.b d_Exp_chain_34 rfl (lv_at hl 0 rfl) ?_
    refine lv_aload_n S.x S.b d_Exp_chain_35 rfl (lv_at hl 0 rfl) ?_
    refine px_get S k_Opd hT hw 0 0 6 (v := .int (fx 6)) rfl rfl rfl (by decide) m4_230 d_Exp_chain_36 ?_
    refine lv_aload_n S.x S.b d_Exp_chain_39 rfl (lv_at hl 2 rfl) ?_
    refine px_get S k_Opd hT hw 1 0 6 (v := .int (fy 6)) rfl rfl rfl (by decide) m4_230 d_Exp_chain_40 ?_
    refine lv_iconst (v := 1) S.x S.b d_Exp_chain_43 (by decide) ?_
    refine lv_iadd S.x S.b d_Exp_chain_44 ?_
    have lr7 := Int32.le_toInt (fy 6)
    have ur7 := Int32.toInt_lt (fy 6)
    refine lv_topi (fun z8 ez8 => ?_)
    have lz8 := Int32.le_toInt z8
    have uz8 := Int32.toInt_lt z8
    refine va_mmax S.x S.b (by rw [S.ml]; exact hl.1.symm) S.own (S.w m5_43) (S.w m2_26) (S.w m1_13) (S.w m2_27) (Nat.le_of_ble_eq_true rfl) (Nat.le_of_ble_eq_true rfl) (Nat.zero_le _) (Nat.zero_le _) d_Exp_chain_45 ?_
    refine lv_topi (fun z9 ez9 => ?_)
    have tz9 := i_max (fx 6) z8 ez9
    have lz9 := Int32.le_toInt z9
    have uz9 := Int32.toInt_lt z9
    refine px_put S k_Opd hT hw 0 0 6 rfl rfl (by decide) m4_230 rfl rfl rfl (Nat.le_of_ble_eq_true rfl) d_Exp_chain_48 (w' := wd_Opd cs hx (fun _ => 0) (fun k => if k = 4 then ox else none) (upd (upd fx 5 z6) 6 z9) (fun _ _ => 0) (fun _ _ => none)) (ps' := [wd_Opd cs hx (fun _ => 0) (fun k => if k = 4 then ox else none) (upd (upd fx 5 z6) 6 z9) (fun _ _ => 0) (fun _ _ => none), wd_Opd cs hy (fun _ => 0) (fun k => if k = 4 then oy else none) fy (fun _ _ => 0) (fun _ _ => none)]) rfl rfl (fun H locs hw => ?_)
    refine lv_aload_n S.x S.b d_Exp_chain_51 rfl (lv_at hl 0 rfl) ?_
    refine lv_iload_n S.x S.b d_Exp_chain_52 rfl (lv_at hl 1 rfl) ?_
    refine px_put S k_Opd hT hw 0 0 7 rfl rfl (by decide) m4_233 rfl rfl rfl (Nat.le_of_ble_eq_true rfl) d_Exp_chain_53 (w' := wd_Opd cs hx (fun _ => 0) (fun k => if k = 4 then ox else none) (upd (upd (upd fx 5 z6) 6 z9) 7 p0) (fun _ _ => 0) (fun _ _ => none)) (ps' := [wd_Opd cs hx (fun _ => 0) (fun k => if k = 4 then ox else none) (upd (upd (upd fx 5 z6) 6 z9) 7 p0) (fun _ _ => 0) (fun _ _ => none), wd_Opd cs hy (fun _ => 0) (fun k => if k = 4 then oy else none) fy (fun _ _ => 0) (fun _ _ => none)]) rfl rfl (fun H locs hw => ?_)
    exact px_vret S hr hlk hAe hw (Nat.le_of_ble_eq_true rfl) (Nat.le_of_ble_eq_true rfl) (⟨(upd (upd (upd fx 5 z6) 6 z9) 7 p0), rfl, (show (fx 0).toInt = (fx 0).toInt from rfl), (show (fx 3).toInt = (fx 3).toInt from rfl), (show 1 ≤ z6.toInt from by first | exact oz_4244efe5c1 tz6.1 tz3 g0 | omega), (show z6.toInt ≤ (fx 5).toInt + 1 ∨ z6.toInt ≤ (fy 5).toInt + 1 from by first | with_reducible rfl | with_reducible assumption | omega)⟩) d_Exp_chain_56
  · have nc1 : (fx 7).toInt = p0.toInt := (i_eq (x := (fx 7)) (y := p0)).mp c1
    refine lv_aload_n S.x S.b d_Exp_chain_9 rfl (lv_at hl 0 rfl) ?_
    refine px_get S k_Opd hT hw 0 0 5 (v := .int (fx 5)) rfl rfl rfl (by decide) m4_228 d_Exp_chain_10 ?_
    refine lv_goto (tgt := 22) S.x S.b d_Exp_chain_13 (by decide) ?_
    refine lv_aload_n S.x S.b d_Exp_chain_22 rfl (lv_at hl 2 rfl) ?_
    refine px_get S k_Opd hT hw 1 0 5 (v := .int (fy 5)) rfl rfl rfl (by decide) m4_228 d_Exp_chain_23 ?_
    refine lv_iconst (v := 1) S.x S.b d_Exp_chain_26 (by decide) ?_
    refine lv_iadd S.x S.b d_Exp_chain_27 ?_
    have lr10 := Int32.le_toInt (fy 5)
    have ur10 := Int32.toInt_lt (fy 5)
    refine lv_topi (fun z11 ez11 => ?_)
    have tz11 : z11.toInt = ((fy 5).toInt + (1 : Int) + 2147483648) % 4294967296 - 2147483648 := by rw [ez11]; exact i_add (fy 5) 1
    have lz11 := Int32.le_toInt z11
    have uz11 := Int32.toInt_lt z11
    try replace tz11 : z11.toInt = (fy 5).toInt + (1 : Int) := by omega
    refine va_mmax S.x S.b (by rw [S.ml]; exact hl.1.symm) S.own (S.w m5_43) (S.w m2_26) (S.w m1_13) (S.w m2_27) (Nat.le_of_ble_eq_true rfl) (Nat.le_of_ble_eq_true rfl) (Nat.zero_le _) (Nat.zero_le _) d_Exp_chain_28 ?_
    refine lv_topi (fun z12 ez12 => ?_)
    have tz12 := i_max (fx 5) z11 ez12
    have lz12 := Int32.le_toInt z12
    have uz12 := Int32.toInt_lt z12
    refine px_put S k_Opd hT hw 0 0 5 rfl rfl (by decide) m4_228 rfl rfl rfl (Nat.le_of_ble_eq_true rfl) d_Exp_chain_31 (w' := wd_Opd cs hx (fun _ => 0) (fun k => if k = 4 then ox else none) (upd fx 5 z12) (fun _ _ => 0) (fun _ _ => none)) (ps' := [wd_Opd cs hx (fun _ => 0) (fun k => if k = 4 then ox else none) (upd fx 5 z12) (fun _ _ => 0) (fun _ _ => none), wd_Opd cs hy (fun _ => 0) (fun k => if k = 4 then oy else none) fy (fun _ _ => 0) (fun _ _ => none)]) rfl rfl (fun H locs hw => ?_)
    refine lv_aload_n S.x S.b d_Exp_chain_34 rfl (lv_at hl 0 rfl) ?_
    refine lv_aload_n S.x S.b d_Exp_chain_35 rfl (lv_at hl 0 rfl) ?_
    refine px_get S k_Opd hT hw 0 0 6 (v := .int (fx 6)) rfl rfl rfl (by decide) m4_230 d_Exp_chain_36 ?_
    refine lv_aload_n S.x S.b d_Exp_chain_39 rfl (lv_at hl 2 rfl) ?_
    refine px_get S k_Opd hT hw 1 0 6 (v := .int (fy 6)) rfl rfl rfl (by decide) m4_230 d_Exp_chain_40 ?_
    refine lv_iconst (v := 1) S.x S.b d_Exp_chain_43 (by decide) ?_
    refine lv_iadd S.x S.b d_Exp_chain_44 ?_
    have lr13 := Int32.le_toInt (fy 6)
    have ur13 := Int32.toInt_lt (fy 6)
    refine lv_topi (fun z14 ez14 => ?_)
    have lz14 := Int32.le_toInt z14
    have uz14 := Int32.toInt_lt z14
    refine va_mmax S.x S.b (by rw [S.ml]; exact hl.1.symm) S.own (S.w m5_43) (S.w m2_26) (S.w m1_13) (S.w m2_27) (Nat.le_of_ble_eq_true rfl) (Nat.le_of_ble_eq_true rfl) (Nat.zero_le _) (Nat.zero_le _) d_Exp_chain_45 ?_
    refine lv_topi (fun z15 ez15 => ?_)
    have tz15 := i_max (fx 6) z14 ez15
    have lz15 := Int32.le_toInt z15
    have uz15 := Int32.toInt_lt z15
    refine px_put S k_Opd hT hw 0 0 6 rfl rfl (by decide) m4_230 rfl rfl rfl (Nat.le_of_ble_eq_true rfl) d_Exp_chain_48 (w' := wd_Opd cs hx (fun _ => 0) (fun k => if k = 4 then ox else none) (upd (upd fx 5 z12) 6 z15) (fun _ _ => 0) (fun _ _ => none)) (ps' := [wd_Opd cs hx (fun _ => 0) (fun k => if k = 4 then ox else none) (upd (upd fx 5 z12) 6 z15) (fun _ _ => 0) (fun _ _ => none), wd_Opd cs hy (fun _ => 0) (fun k => if k = 4 then oy else none) fy (fun _ _ => 0) (fun _ _ => none)]) rfl rfl (fun H locs hw => ?_)
    refine lv_aload_n S.x S.b d_Exp_chain_51 rfl (lv_at hl 0 rfl) ?_
    refine lv_iload_n S.x S.b d_Exp_chain_52 rfl (lv_at hl 1 rfl) ?_
    refine px_put S k_Opd hT hw 0 0 7 rfl rfl (by decide) m4_233 rfl rfl rfl (Nat.le_of_ble_eq_true rfl) d_Exp_chain_53 (w' := wd_Opd cs hx (fun _ => 0) (fun k => if k = 4 then ox else none) (upd (upd (upd fx 5 z12) 6 z15) 7 p0) (fun _ _ => 0) (fun _ _ => none)) (ps' := [wd_Opd cs hx (fun _ => 0) (fun k => if k = 4 then ox else none) (upd (upd (upd fx 5 z12) 6 z15) 7 p0) (fun _ _ => 0) (fun _ _ => none), wd_Opd cs hy (fun _ => 0) (fun k => if k = 4 then oy else none) fy (fun _ _ => 0) (fun _ _ => none)]) rfl rfl (fun H locs hw => ?_)
    exact px_vret S hr hlk hAe hw (Nat.le_of_ble_eq_true rfl) (Nat.le_of_ble_eq_true rfl) (⟨(upd (upd (upd fx 5 z12) 6 z15) 7 p0), rfl, (show (fx 0).toInt = (fx 0).toInt from rfl), (show (fx 3).toInt = (fx 3).toInt from rfl), (show 1 ≤ z12.toInt from by first | exact oz_290fdae571 tz12.1 g0 | omega), (show z12.toInt ≤ (fx 5).toInt + 1 ∨ z12.toInt ≤ (fy 5).toInt + 1 from by first | with_reducible rfl | with_reducible assumption | omega)⟩) d_Exp_chain_56
abbrev b_Exp_isTarget : ByteArray := prog_3_method_14_code
def y_Exp_isTarget : MethodName := ⟨"HomeSystem$Expressions", "isTarget", "(LHomeSystem$Operand;)Z"⟩
theorem d_Exp_isTarget_0 : decode b_Exp_isTarget 0 = .ok (.aload_n 1, 1) := by decide +kernel
theorem d_Exp_isTarget_1 : decode b_Exp_isTarget 1 = .ok (.getfield 79, 3) := by decide +kernel
theorem d_Exp_isTarget_4 : decode b_Exp_isTarget 4 = .ok (.iconst 2, 1) := by decide +kernel
theorem d_Exp_isTarget_5 : decode b_Exp_isTarget 5 = .ok (.if_icmp .ne 18, 3) := by decide +kernel
theorem d_Exp_isTarget_8 : decode b_Exp_isTarget 8 = .ok (.aload_n 0, 1) := by decide +kernel
theorem d_Exp_isTarget_9 : decode b_Exp_isTarget 9 = .ok (.getfield 9, 3) := by decide +kernel
theorem d_Exp_isTarget_12 : decode b_Exp_isTarget 12 = .ok (.iconst 3, 1) := by decide +kernel
theorem d_Exp_isTarget_13 : decode b_Exp_isTarget 13 = .ok (.aload_n 1, 1) := by decide +kernel
theorem d_Exp_isTarget_14 : decode b_Exp_isTarget 14 = .ok (.getfield 82, 3) := by decide +kernel
theorem d_Exp_isTarget_17 : decode b_Exp_isTarget 17 = .ok (.invokevirtual 85, 3) := by decide +kernel
theorem d_Exp_isTarget_20 : decode b_Exp_isTarget 20 = .ok (.goto 31, 3) := by decide +kernel
theorem d_Exp_isTarget_23 : decode b_Exp_isTarget 23 = .ok (.aload_n 1, 1) := by decide +kernel
theorem d_Exp_isTarget_24 : decode b_Exp_isTarget 24 = .ok (.getfield 79, 3) := by decide +kernel
theorem d_Exp_isTarget_27 : decode b_Exp_isTarget 27 = .ok (.ifCond .eq 11, 3) := by decide +kernel
theorem d_Exp_isTarget_30 : decode b_Exp_isTarget 30 = .ok (.aload_n 1, 1) := by decide +kernel
theorem d_Exp_isTarget_31 : decode b_Exp_isTarget 31 = .ok (.getfield 79, 3) := by decide +kernel
theorem d_Exp_isTarget_34 : decode b_Exp_isTarget 34 = .ok (.iconst 3, 1) := by decide +kernel
theorem d_Exp_isTarget_35 : decode b_Exp_isTarget 35 = .ok (.if_icmp .ne 16, 3) := by decide +kernel
theorem d_Exp_isTarget_38 : decode b_Exp_isTarget 38 = .ok (.aload_n 0, 1) := by decide +kernel
theorem d_Exp_isTarget_39 : decode b_Exp_isTarget 39 = .ok (.getfield 9, 3) := by decide +kernel
theorem d_Exp_isTarget_42 : decode b_Exp_isTarget 42 = .ok (.bipush 6, 2) := by decide +kernel
theorem d_Exp_isTarget_44 : decode b_Exp_isTarget 44 = .ok (.aload_n 1, 1) := by decide +kernel
theorem d_Exp_isTarget_45 : decode b_Exp_isTarget 45 = .ok (.getfield 82, 3) := by decide +kernel
theorem d_Exp_isTarget_48 : decode b_Exp_isTarget 48 = .ok (.invokevirtual 85, 3) := by decide +kernel
theorem d_Exp_isTarget_51 : decode b_Exp_isTarget 51 = .ok (.aload_n 1, 1) := by decide +kernel
theorem d_Exp_isTarget_52 : decode b_Exp_isTarget 52 = .ok (.getfield 79, 3) := by decide +kernel
theorem d_Exp_isTarget_55 : decode b_Exp_isTarget 55 = .ok (.iconst 1, 1) := by decide +kernel
theorem d_Exp_isTarget_56 : decode b_Exp_isTarget 56 = .ok (.if_icmp .ne 14, 3) := by decide +kernel
theorem d_Exp_isTarget_59 : decode b_Exp_isTarget 59 = .ok (.aload_n 1, 1) := by decide +kernel
theorem d_Exp_isTarget_60 : decode b_Exp_isTarget 60 = .ok (.getfield 91, 3) := by decide +kernel
theorem d_Exp_isTarget_63 : decode b_Exp_isTarget 63 = .ok (.ifnull 7, 3) := by decide +kernel
theorem d_Exp_isTarget_66 : decode b_Exp_isTarget 66 = .ok (.iconst 1, 1) := by decide +kernel
theorem d_Exp_isTarget_67 : decode b_Exp_isTarget 67 = .ok (.goto 4, 3) := by decide +kernel
theorem d_Exp_isTarget_70 : decode b_Exp_isTarget 70 = .ok (.iconst 0, 1) := by decide +kernel
theorem d_Exp_isTarget_71 : decode b_Exp_isTarget 71 = .ok (.ireturn, 1) := by decide +kernel
theorem q_Exp_isTarget : px_y y_Exp_isTarget 1 := by unfold px_y; decide +kernel
set_option maxHeartbeats 4000000 in
set_option maxRecDepth 100000 in
theorem c_ex_isTarget (l : Launch) (D : va_G) (cs : Nat → ClassId) (he : Nat) (re : Nat → Nat) (eo : Nat → Option Nat) (ef : Nat → Int32) (ea : Nat → Nat → Int32) (eg : Nat → Nat → Option Nat) (rt : Nat → Nat) (ot : Nat → Option Nat) (ta : Nat → Nat → Int32) (tg : Nat → Nat → Option Nat) (tf : Nat → Int32) (hx : Nat) (ox : Option Nat) (fx : Nat → Int32)  (hinv0 : CurOk (tf 10) (tf 13) (tf 14) (tf 15) (tf 17) (ta 0)) (g0 : 0 ≤ (fx 0).toInt) (g1 : 0 ≤ (fx 3).toInt) : MetI l y_Exp_isTarget b_Exp_isTarget 2 (.boolean) D cs 1 40 (0) (0) [.ref he, .ref hx] [wd_Exp cs he re eo ef ea eg, wd_Tok cs (re 0) rt ot tf ta tg, wd_Opd cs hx (fun _ => 0) (fun k => if k = 4 then ox else none) fx (fun _ _ => 0) (fun _ _ => none)] (fun _ => True) (fun v ps => ∃ (tf' : Nat → Int32), (ps = [wd_Exp cs he re eo ef ea eg, wd_Tok cs (re 0) rt ot tf' ta tg, wd_Opd cs hx (fun _ => 0) (fun k => if k = 4 then ox else none) fx (fun _ _ => 0) (fun _ _ => none)]) ∧ (CurOk (tf' 10) (tf' 13) (tf' 14) (tf' 15) (tf' 17) (ta 0)) ∧ (v = 0 ∨ v = 1) ∧ ((tf' 10).toInt = (tf 10).toInt) ∧ ((tf' 13).toInt = (tf 13).toInt) ∧ ((tf' 14).toInt = (tf 14).toInt) ∧ ((tf' 15).toInt = (tf 15).toInt) ∧ (Nn v ox)) := by
  refine px_enter (by decide) (Nat.le_of_ble_eq_true rfl) ?_
  intro p e s m below meth c A ls hAe S hr hlk hnm hA hT hX hw hl
  replace hl : lv_has ls 2 [(0, .ref he), (1, .ref hx)] := hl
  have cst0 : (0 : Int32).toInt = 0 := rfl
  have cst1 : (1 : Int32).toInt = 1 := rfl
  have cst2 : (2 : Int32).toInt = 2 := rfl
  have cst3 : (3 : Int32).toInt = 3 := rfl
  have cst6 : (6 : Int32).toInt = 6 := rfl
  obtain ⟨⟨o1, o2⟩, ⟨o3, o4⟩, ⟨o5, o6⟩, o7, o8, hlast⟩ := hinv0
  have J51 : ∀ (tf_51 : Nat → Int32) (H : Heap) (locs : List Loc) (ls : Array Slot), (CurOk (tf_51 10) (tf_51 13) (tf_51 14) (tf_51 15) (tf_51 17) (ta 0)) → ((tf_51 10).toInt = (tf 10).toInt) → ((tf_51 13).toInt = (tf 13).toInt) → ((tf_51 14).toInt = (tf 14).toInt) → ((tf_51 15).toInt = (tf 15).toInt) → pw D A s.heap H locs [wd_Exp cs he re eo ef ea eg, wd_Tok cs (re 0) rt ot tf_51 ta tg, wd_Opd cs hx (fun _ => 0) (fun k => if k = 4 then ox else none) fx (fun _ _ => 0) (fun _ _ => none)] → lv_has ls 2 [(0, .ref he), (1, .ref hx)] → W p l e { frames := 1, cells := 0, slots := 0, locals := 40 } s m [.ref he, .ref hx].toArray below meth c H locs 0 0 (MQ below (va_Qi (fun v ps => ∃ (tf' : Nat → Int32), (ps = [wd_Exp cs he re eo ef ea eg, wd_Tok cs (re 0) rt ot tf' ta tg, wd_Opd cs hx (fun _ => 0) (fun k => if k = 4 then ox else none) fx (fun _ _ => 0) (fun _ _ => none)]) ∧ (CurOk (tf' 10) (tf' 13) (tf' 14) (tf' 15) (tf' 17) (ta 0)) ∧ (v = 0 ∨ v = 1) ∧ ((tf' 10).toInt = (tf 10).toInt) ∧ ((tf' 13).toInt = (tf 13).toInt) ∧ ((tf' 14).toInt = (tf 14).toInt) ∧ ((tf' 15).toInt = (tf 15).toInt) ∧ (Nn v ox)) (pc_B D (va_A ([wd_Exp cs he re eo ef ea eg, wd_Tok cs (re 0) rt ot tf ta tg, wd_Opd cs hx (fun _ => 0) (fun k => if k = 4 then ox else none) fx (fun _ _ => 0) (fun _ _ => none)] : List va_W).flatten s.heap.size)) (va_A ([wd_Exp cs he re eo ef ea eg, wd_Tok cs (re 0) rt ot tf ta tg, wd_Opd cs hx (fun _ => 0) (fun k => if k = 4 then ox else none) fx (fun _ _ => 0) (fun _ _ => none)] : List va_W).flatten s.heap.size)) [.ref he, .ref hx].toArray s 0 0 A) (F0 m 51 ls []) := by
    intro tf_51 H locs ls hi51_0 k51_0 k51_1 k51_2 k51_3 hw hl
    obtain ⟨⟨o1, o2⟩, ⟨o3, o4⟩, ⟨o5, o6⟩, o7, o8, hlast⟩ := hi51_0
    refine lv_aload_n S.x S.b d_Exp_isTarget_51 rfl (lv_at hl 1 rfl) ?_
    refine px_get S k_Opd hT hw 2 0 1 (v := .int (fx 1)) rfl rfl rfl (by decide) m4_221 d_Exp_isTarget_52 ?_
    refine lv_iconst (v := 1) S.x S.b d_Exp_isTarget_55 (by decide) ?_
    refine lv_icmp_ne (tgt := 70) S.x S.b d_Exp_isTarget_56 (by decide) (fun c1 => ?_) (fun c1 => ?_)
    · have nc1 : ¬ (fx 1).toInt = (1 : Int) := mt (i_eq (x := (fx 1)) (y := 1)).mpr c1
      refine lv_iconst (v := 0) S.x S.b d_Exp_isTarget_70 (by decide) ?_
      exact px_iret (v := 0) S hr rfl hlk hAe hw (Nat.le_of_ble_eq_true rfl) (Nat.le_of_ble_eq_true rfl) (⟨tf_51, rfl, (show CurOk (tf_51 10) (tf_51 13) (tf_51 14) (tf_51 15) (tf_51 17) (ta 0) from ⟨⟨by first | exact o1 | omega, by first | exact o2 | omega⟩, ⟨by first | exact o3 | omega, by first | exact o4 | omega⟩, ⟨by first | exact o5 | omega, by first | exact o6 | omega⟩, by first | exact o7 | omega, by omega, last_eq hlast (rfl)⟩), (show (0 : Int32) = 0 ∨ (0 : Int32) = 1 from by first | exact Or.inl rfl | exact Or.inr rfl | exact z_or (by omega)), (show (tf_51 10).toInt = (tf 10).toInt from by first | exact k51_0 | omega), (show (tf_51 13).toInt = (tf 13).toInt from by first | exact k51_1 | omega), (show (tf_51 14).toInt = (tf 14).toInt from by first | exact k51_2 | omega), (show (tf_51 15).toInt = (tf 15).toInt from by first | exact k51_3 | omega), (show Nn (0 : Int32) ox from (by first | exact fun h => ⟨_, rfl⟩ | exact fun h => absurd h (by omega) | exact fun h => absurd h (by decide)))⟩) d_Exp_isTarget_71
    · have nc1 : (fx 1).toInt = (1 : Int) := (i_eq (x := (fx 1)) (y := 1)).mp c1
      refine lv_aload_n S.x S.b d_Exp_isTarget_59 rfl (lv_at hl 1 rfl) ?_
      refine px_get S k_Opd hT hw 2 0 4 (v := va_rf ox) rfl rfl rfl (by decide) m4_226 d_Exp_isTarget_60 ?_
      refine lq_ifnull (x := ox) (tgt := 70) S.x S.b d_Exp_isTarget_63 (by decide) (fun c2 => ?_) (fun q3 c2 => ?_)
      ·
        subst c2
        refine lv_iconst (v := 0) S.x S.b d_Exp_isTarget_70 (by decide) ?_
        exact px_iret (v := 0) S hr rfl hlk hAe hw (Nat.le_of_ble_eq_true rfl) (Nat.le_of_ble_eq_true rfl) (⟨tf_51, rfl, (show CurOk (tf_51 10) (tf_51 13) (tf_51 14) (tf_51 15) (tf_51 17) (ta 0) from ⟨⟨by first | exact o1 | omega, by first | exact o2 | omega⟩, ⟨by first | exact o3 | omega, by first | exact o4 | omega⟩, ⟨by first | exact o5 | omega, by first | exact o6 | omega⟩, by first | exact o7 | omega, by omega, last_eq hlast (rfl)⟩), (show (0 : Int32) = 0 ∨ (0 : Int32) = 1 from by first | exact Or.inl rfl | exact Or.inr rfl | exact z_or (by omega)), (show (tf_51 10).toInt = (tf 10).toInt from by first | exact k51_0 | omega), (show (tf_51 13).toInt = (tf 13).toInt from by first | exact k51_1 | omega), (show (tf_51 14).toInt = (tf 14).toInt from by first | exact k51_2 | omega), (show (tf_51 15).toInt = (tf 15).toInt from by first | exact k51_3 | omega), (show Nn (0 : Int32) none from (by first | exact fun h => ⟨_, rfl⟩ | exact fun h => absurd h (by omega) | exact fun h => absurd h (by decide)))⟩) d_Exp_isTarget_71
      ·
        subst c2
        refine lv_iconst (v := 1) S.x S.b d_Exp_isTarget_66 (by decide) ?_
        refine lv_goto (tgt := 71) S.x S.b d_Exp_isTarget_67 (by decide) ?_
        exact px_iret (v := 1) S hr rfl hlk hAe hw (Nat.le_of_ble_eq_true rfl) (Nat.le_of_ble_eq_true rfl) (⟨tf_51, rfl, (show CurOk (tf_51 10) (tf_51 13) (tf_51 14) (tf_51 15) (tf_51 17) (ta 0) from ⟨⟨by first | exact o1 | omega, by first | exact o2 | omega⟩, ⟨by first | exact o3 | omega, by first | exact o4 | omega⟩, ⟨by first | exact o5 | omega, by first | exact o6 | omega⟩, by first | exact o7 | omega, by omega, last_eq hlast (rfl)⟩), (show (1 : Int32) = 0 ∨ (1 : Int32) = 1 from by first | exact Or.inl rfl | exact Or.inr rfl | exact z_or (by omega)), (show (tf_51 10).toInt = (tf 10).toInt from by first | exact k51_0 | omega), (show (tf_51 13).toInt = (tf 13).toInt from by first | exact k51_1 | omega), (show (tf_51 14).toInt = (tf 14).toInt from by first | exact k51_2 | omega), (show (tf_51 15).toInt = (tf 15).toInt from by first | exact k51_3 | omega), (show Nn (1 : Int32) (some q3) from (by first | exact fun h => ⟨_, rfl⟩ | exact fun h => absurd h (by omega) | exact fun h => absurd h (by decide)))⟩) d_Exp_isTarget_71
  refine lv_aload_n S.x S.b d_Exp_isTarget_0 rfl (lv_at hl 1 rfl) ?_
  refine px_get S k_Opd hT hw 2 0 1 (v := .int (fx 1)) rfl rfl rfl (by decide) m4_221 d_Exp_isTarget_1 ?_
  refine lv_iconst (v := 2) S.x S.b d_Exp_isTarget_4 (by decide) ?_
  refine lv_icmp_ne (tgt := 23) S.x S.b d_Exp_isTarget_5 (by decide) (fun c4 => ?_) (fun c4 => ?_)
  · have nc4 : ¬ (fx 1).toInt = (2 : Int) := mt (i_eq (x := (fx 1)) (y := 2)).mpr c4
    refine lv_aload_n S.x S.b d_Exp_isTarget_23 rfl (lv_at hl 1 rfl) ?_
    refine px_get S k_Opd hT hw 2 0 1 (v := .int (fx 1)) rfl rfl rfl (by decide) m4_221 d_Exp_isTarget_24 ?_
    refine lv_if_eq (tgt := 38) S.x S.b d_Exp_isTarget_27 (by decide) (fun c5 => ?_) (fun c5 => ?_)
    · have nc5 : (fx 1).toInt = (0 : Int) := (i_eq (x := (fx 1)) (y := 0)).mp c5
      refine lv_aload_n S.x S.b d_Exp_isTarget_38 rfl (lv_at hl 0 rfl) ?_
      refine px_get S k_Exp hT hw 0 0 0 (v := .ref (re 0)) rfl rfl rfl (by decide) m2_131 d_Exp_isTarget_39 ?_
      refine lv_bipush (v := 6) S.x S.b d_Exp_isTarget_42 (by decide) ?_
      refine lv_aload_n S.x S.b d_Exp_isTarget_44 rfl (lv_at hl 1 rfl) ?_
      refine px_get S k_Opd hT hw 2 0 0 (v := .int (fx 0)) rfl rfl rfl (by decide) m4_218 d_Exp_isTarget_45 ?_
      have hw : pw D A s.heap _ _ [wd_Exp cs he re eo ef ea eg, wd_Opd cs hx (fun _ => 0) (fun k => if k = 4 then ox else none) fx (fun _ _ => 0) (fun _ _ => none), wd_Tok cs (re 0) rt ot tf ta tg] := hw.sub [0, 2, 1] rfl rfl
      refine px_callv (pr := [wd_Exp cs he re eo ef ea eg, wd_Opd cs hx (fun _ => 0) (fun k => if k = 4 then ox else none) fx (fun _ _ => 0) (fun _ _ => none)]) (px_runV (As := [.int 6, .int (fx 0)]) (rest := []) S (c_tk_blame l D cs (re 0) rt ot ta tg tf 6 (fx 0)  (show CurOk (tf 10) (tf 13) (tf 14) (tf 15) (tf 17) (ta 0) from ⟨⟨by first | exact o1 | omega, by first | exact o2 | omega⟩, ⟨by first | exact o3 | omega, by first | exact o4 | omega⟩, ⟨by first | exact o5 | omega, by first | exact o6 | omega⟩, by first | exact o7 | omega, by omega, last_eq hlast (rfl)⟩) (show 0 ≤ (fx 0).toInt from by first | exact g0 | omega) _) hT (pr := [wd_Exp cs he re eo ef ea eg, wd_Opd cs hx (fun _ => 0) (fun k => if k = 4 then ox else none) fx (fun _ _ => 0) (fun _ _ => none)]) (pcs := [wd_Tok cs (re 0) rt ot tf ta tg]) hw px_X.tt (px_recv hT hw 2 0 rfl rfl rfl) m4_173 m4_170 m4_171 m4_172 m1_2 q_Tok_blame ⟨Nat.le_of_ble_eq_true rfl, Nat.le_of_ble_eq_true rfl⟩ hl.1 rfl (Nat.le_of_ble_eq_true rfl) d_Exp_isTarget_48 ⟨Nat.le_of_ble_eq_true rfl, Nat.le_of_ble_eq_true rfl⟩) hw hA (fun p7 H locs hp7 hw => ?_)
      obtain ⟨tf6, rfl, h13, e9, e10, e11, e12⟩ := hp7
      obtain ⟨⟨o1, o2⟩, ⟨o3, o4⟩, ⟨o5, o6⟩, o7, o8, hlast⟩ := h13
      replace e9 : (tf6 10).toInt = (tf 10).toInt := e9
      replace e10 : (tf6 14).toInt = (tf 14).toInt := e10
      replace e11 : (tf6 15).toInt = (tf 15).toInt := e11
      replace e12 : (tf6 13).toInt = (tf 13).toInt := e12
      replace hw : pw D A s.heap H locs [wd_Exp cs he re eo ef ea eg, wd_Opd cs hx (fun _ => 0) (fun k => if k = 4 then ox else none) fx (fun _ _ => 0) (fun _ _ => none), wd_Tok cs (re 0) rt ot tf6 ta tg] := hw
      have hw : pw D A s.heap _ _ [wd_Exp cs he re eo ef ea eg, wd_Tok cs (re 0) rt ot tf6 ta tg, wd_Opd cs hx (fun _ => 0) (fun k => if k = 4 then ox else none) fx (fun _ _ => 0) (fun _ _ => none)] := hw.sub [0, 2, 1] rfl rfl
      exact J51 tf6 _ _ ls (show CurOk (tf6 10) (tf6 13) (tf6 14) (tf6 15) (tf6 17) (ta 0) from ⟨⟨by first | exact o1 | omega, by first | exact o2 | omega⟩, ⟨by first | exact o3 | omega, by first | exact o4 | omega⟩, ⟨by first | exact o5 | omega, by first | exact o6 | omega⟩, by first | exact o7 | omega, by omega, last_eq hlast (rfl)⟩) (show (tf6 10).toInt = (tf 10).toInt from by first | exact e9 | omega) (show (tf6 13).toInt = (tf 13).toInt from by first | exact e12 | omega) (show (tf6 14).toInt = (tf 14).toInt from by first | exact e10 | omega) (show (tf6 15).toInt = (tf 15).toInt from by first | exact e11 | omega) hw (lv_sub hl [0, 1] rfl)
    · have nc5 : ¬ (fx 1).toInt = (0 : Int) := mt (i_eq (x := (fx 1)) (y := 0)).mpr c5
      refine lv_aload_n S.x S.b d_Exp_isTarget_30 rfl (lv_at hl 1 rfl) ?_
      refine px_get S k_Opd hT hw 2 0 1 (v := .int (fx 1)) rfl rfl rfl (by decide) m4_221 d_Exp_isTarget_31 ?_
      refine lv_iconst (v := 3) S.x S.b d_Exp_isTarget_34 (by decide) ?_
      refine lv_icmp_ne (tgt := 51) S.x S.b d_Exp_isTarget_35 (by decide) (fun c14 => ?_) (fun c14 => ?_)
      · have nc14 : ¬ (fx 1).toInt = (3 : Int) := mt (i_eq (x := (fx 1)) (y := 3)).mpr c14
        exact J51 tf _ _ ls (show CurOk (tf 10) (tf 13) (tf 14) (tf 15) (tf 17) (ta 0) from ⟨⟨by first | exact o1 | omega, by first | exact o2 | omega⟩, ⟨by first | exact o3 | omega, by first | exact o4 | omega⟩, ⟨by first | exact o5 | omega, by first | exact o6 | omega⟩, by first | exact o7 | omega, by omega, last_eq hlast (rfl)⟩) (show (tf 10).toInt = (tf 10).toInt from rfl) (show (tf 13).toInt = (tf 13).toInt from rfl) (show (tf 14).toInt = (tf 14).toInt from rfl) (show (tf 15).toInt = (tf 15).toInt from rfl) hw (lv_sub hl [0, 1] rfl)
      · have nc14 : (fx 1).toInt = (3 : Int) := (i_eq (x := (fx 1)) (y := 3)).mp c14
        refine lv_aload_n S.x S.b d_Exp_isTarget_38 rfl (lv_at hl 0 rfl) ?_
        refine px_get S k_Exp hT hw 0 0 0 (v := .ref (re 0)) rfl rfl rfl (by decide) m2_131 d_Exp_isTarget_39 ?_
        refine lv_bipush (v := 6) S.x S.b d_Exp_isTarget_42 (by decide) ?_
        refine lv_aload_n S.x S.b d_Exp_isTarget_44 rfl (lv_at hl 1 rfl) ?_
        refine px_get S k_Opd hT hw 2 0 0 (v := .int (fx 0)) rfl rfl rfl (by decide) m4_218 d_Exp_isTarget_45 ?_
        have hw : pw D A s.heap _ _ [wd_Exp cs he re eo ef ea eg, wd_Opd cs hx (fun _ => 0) (fun k => if k = 4 then ox else none) fx (fun _ _ => 0) (fun _ _ => none), wd_Tok cs (re 0) rt ot tf ta tg] := hw.sub [0, 2, 1] rfl rfl
        refine px_callv (pr := [wd_Exp cs he re eo ef ea eg, wd_Opd cs hx (fun _ => 0) (fun k => if k = 4 then ox else none) fx (fun _ _ => 0) (fun _ _ => none)]) (px_runV (As := [.int 6, .int (fx 0)]) (rest := []) S (c_tk_blame l D cs (re 0) rt ot ta tg tf 6 (fx 0)  (show CurOk (tf 10) (tf 13) (tf 14) (tf 15) (tf 17) (ta 0) from ⟨⟨by first | exact o1 | omega, by first | exact o2 | omega⟩, ⟨by first | exact o3 | omega, by first | exact o4 | omega⟩, ⟨by first | exact o5 | omega, by first | exact o6 | omega⟩, by first | exact o7 | omega, by omega, last_eq hlast (rfl)⟩) (show 0 ≤ (fx 0).toInt from by first | exact g0 | omega) _) hT (pr := [wd_Exp cs he re eo ef ea eg, wd_Opd cs hx (fun _ => 0) (fun k => if k = 4 then ox else none) fx (fun _ _ => 0) (fun _ _ => none)]) (pcs := [wd_Tok cs (re 0) rt ot tf ta tg]) hw px_X.tt (px_recv hT hw 2 0 rfl rfl rfl) m4_173 m4_170 m4_171 m4_172 m1_2 q_Tok_blame ⟨Nat.le_of_ble_eq_true rfl, Nat.le_of_ble_eq_true rfl⟩ hl.1 rfl (Nat.le_of_ble_eq_true rfl) d_Exp_isTarget_48 ⟨Nat.le_of_ble_eq_true rfl, Nat.le_of_ble_eq_true rfl⟩) hw hA (fun p16 H locs hp16 hw => ?_)
        obtain ⟨tf15, rfl, h22, e18, e19, e20, e21⟩ := hp16
        obtain ⟨⟨o1, o2⟩, ⟨o3, o4⟩, ⟨o5, o6⟩, o7, o8, hlast⟩ := h22
        replace e18 : (tf15 10).toInt = (tf 10).toInt := e18
        replace e19 : (tf15 14).toInt = (tf 14).toInt := e19
        replace e20 : (tf15 15).toInt = (tf 15).toInt := e20
        replace e21 : (tf15 13).toInt = (tf 13).toInt := e21
        replace hw : pw D A s.heap H locs [wd_Exp cs he re eo ef ea eg, wd_Opd cs hx (fun _ => 0) (fun k => if k = 4 then ox else none) fx (fun _ _ => 0) (fun _ _ => none), wd_Tok cs (re 0) rt ot tf15 ta tg] := hw
        have hw : pw D A s.heap _ _ [wd_Exp cs he re eo ef ea eg, wd_Tok cs (re 0) rt ot tf15 ta tg, wd_Opd cs hx (fun _ => 0) (fun k => if k = 4 then ox else none) fx (fun _ _ => 0) (fun _ _ => none)] := hw.sub [0, 2, 1] rfl rfl
        exact J51 tf15 _ _ ls (show CurOk (tf15 10) (tf15 13) (tf15 14) (tf15 15) (tf15 17) (ta 0) from ⟨⟨by first | exact o1 | omega, by first | exact o2 | omega⟩, ⟨by first | exact o3 | omega, by first | exact o4 | omega⟩, ⟨by first | exact o5 | omega, by first | exact o6 | omega⟩, by first | exact o7 | omega, by omega, last_eq hlast (rfl)⟩) (show (tf15 10).toInt = (tf 10).toInt from by first | exact e18 | omega) (show (tf15 13).toInt = (tf 13).toInt from by first | exact e21 | omega) (show (tf15 14).toInt = (tf 14).toInt from by first | exact e19 | omega) (show (tf15 15).toInt = (tf 15).toInt from by first | exact e20 | omega) hw (lv_sub hl [0, 1] rfl)
  · have nc4 : (fx 1).toInt = (2 : Int) := (i_eq (x := (fx 1)) (y := 2)).mp c4
    refine lv_aload_n S.x S.b d_Exp_isTarget_8 rfl (lv_at hl 0 rfl) ?_
    refine px_get S k_Exp hT hw 0 0 0 (v := .ref (re 0)) rfl rfl rfl (by decide) m2_131 d_Exp_isTarget_9 ?_
    refine lv_iconst (v := 3) S.x S.b d_Exp_isTarget_12 (by decide) ?_
    refine lv_aload_n S.x S.b d_Exp_isTarget_13 rfl (lv_at hl 1 rfl) ?_
    refine px_get S k_Opd hT hw 2 0 0 (v := .int (fx 0)) rfl rfl rfl (by decide) m4_218 d_Exp_isTarget_14 ?_
    have hw : pw D A s.heap _ _ [wd_Exp cs he re eo ef ea eg, wd_Opd cs hx (fun _ => 0) (fun k => if k = 4 then ox else none) fx (fun _ _ => 0) (fun _ _ => none), wd_Tok cs (re 0) rt ot tf ta tg] := hw.sub [0, 2, 1] rfl rfl
    refine px_callv (pr := [wd_Exp cs he re eo ef ea eg, wd_Opd cs hx (fun _ => 0) (fun k => if k = 4 then ox else none) fx (fun _ _ => 0) (fun _ _ => none)]) (px_runV (As := [.int 3, .int (fx 0)]) (rest := []) S (c_tk_blame l D cs (re 0) rt ot ta tg tf 3 (fx 0)  (show CurOk (tf 10) (tf 13) (tf 14) (tf 15) (tf 17) (ta 0) from ⟨⟨by first | exact o1 | omega, by first | exact o2 | omega⟩, ⟨by first | exact o3 | omega, by first | exact o4 | omega⟩, ⟨by first | exact o5 | omega, by first | exact o6 | omega⟩, by first | exact o7 | omega, by omega, last_eq hlast (rfl)⟩) (show 0 ≤ (fx 0).toInt from by first | exact g0 | omega) _) hT (pr := [wd_Exp cs he re eo ef ea eg, wd_Opd cs hx (fun _ => 0) (fun k => if k = 4 then ox else none) fx (fun _ _ => 0) (fun _ _ => none)]) (pcs := [wd_Tok cs (re 0) rt ot tf ta tg]) hw px_X.tt (px_recv hT hw 2 0 rfl rfl rfl) m4_173 m4_170 m4_171 m4_172 m1_2 q_Tok_blame ⟨Nat.le_of_ble_eq_true rfl, Nat.le_of_ble_eq_true rfl⟩ hl.1 rfl (Nat.le_of_ble_eq_true rfl) d_Exp_isTarget_17 ⟨Nat.le_of_ble_eq_true rfl, Nat.le_of_ble_eq_true rfl⟩) hw hA (fun p24 H locs hp24 hw => ?_)
    obtain ⟨tf23, rfl, h30, e26, e27, e28, e29⟩ := hp24
    obtain ⟨⟨o1, o2⟩, ⟨o3, o4⟩, ⟨o5, o6⟩, o7, o8, hlast⟩ := h30
    replace e26 : (tf23 10).toInt = (tf 10).toInt := e26
    replace e27 : (tf23 14).toInt = (tf 14).toInt := e27
    replace e28 : (tf23 15).toInt = (tf 15).toInt := e28
    replace e29 : (tf23 13).toInt = (tf 13).toInt := e29
    replace hw : pw D A s.heap H locs [wd_Exp cs he re eo ef ea eg, wd_Opd cs hx (fun _ => 0) (fun k => if k = 4 then ox else none) fx (fun _ _ => 0) (fun _ _ => none), wd_Tok cs (re 0) rt ot tf23 ta tg] := hw
    refine lv_goto (tgt := 51) S.x S.b d_Exp_isTarget_20 (by decide) ?_
    have hw : pw D A s.heap _ _ [wd_Exp cs he re eo ef ea eg, wd_Tok cs (re 0) rt ot tf23 ta tg, wd_Opd cs hx (fun _ => 0) (fun k => if k = 4 then ox else none) fx (fun _ _ => 0) (fun _ _ => none)] := hw.sub [0, 2, 1] rfl rfl
    exact J51 tf23 _ _ ls (show CurOk (tf23 10) (tf23 13) (tf23 14) (tf23 15) (tf23 17) (ta 0) from ⟨⟨by first | exact o1 | omega, by first | exact o2 | omega⟩, ⟨by first | exact o3 | omega, by first | exact o4 | omega⟩, ⟨by first | exact o5 | omega, by first | exact o6 | omega⟩, by first | exact o7 | omega, by omega, last_eq hlast (rfl)⟩) (show (tf23 10).toInt = (tf 10).toInt from by first | exact e26 | omega) (show (tf23 13).toInt = (tf 13).toInt from by first | exact e29 | omega) (show (tf23 14).toInt = (tf 14).toInt from by first | exact e27 | omega) (show (tf23 15).toInt = (tf 15).toInt from by first | exact e28 | omega) hw (lv_sub hl [0, 1] rfl)
abbrev b_Exp_increase : ByteArray := prog_3_method_18_code
def y_Exp_increase : MethodName := ⟨"HomeSystem$Expressions", "increase", "(LHomeSystem$Operand;IZ)V"⟩
theorem d_Exp_increase_0 : decode b_Exp_increase 0 = .ok (.iload_n 3, 1) := by decide +kernel
theorem d_Exp_increase_1 : decode b_Exp_increase 1 = .ok (.ifCond .eq 45, 3) := by decide +kernel
theorem d_Exp_increase_4 : decode b_Exp_increase 4 = .ok (.aload_n 1, 1) := by decide +kernel
theorem d_Exp_increase_5 : decode b_Exp_increase 5 = .ok (.getfield 91, 3) := by decide +kernel
theorem d_Exp_increase_8 : decode b_Exp_increase 8 = .ok (.ifnull 38, 3) := by decide +kernel
theorem d_Exp_increase_11 : decode b_Exp_increase 11 = .ok (.aload_n 0, 1) := by decide +kernel
theorem d_Exp_increase_12 : decode b_Exp_increase 12 = .ok (.getfield 19, 3) := by decide +kernel
theorem d_Exp_increase_15 : decode b_Exp_increase 15 = .ok (.iconst 5, 1) := by decide +kernel
theorem d_Exp_increase_16 : decode b_Exp_increase 16 = .ok (.iload_n 2, 1) := by decide +kernel
theorem d_Exp_increase_17 : decode b_Exp_increase 17 = .ok (.bipush 8, 2) := by decide +kernel
theorem d_Exp_increase_19 : decode b_Exp_increase 19 = .ok (.ishl, 1) := by decide +kernel
theorem d_Exp_increase_20 : decode b_Exp_increase 20 = .ok (.ior, 1) := by decide +kernel
theorem d_Exp_increase_21 : decode b_Exp_increase 21 = .ok (.aload_n 1, 1) := by decide +kernel
theorem d_Exp_increase_22 : decode b_Exp_increase 22 = .ok (.getfield 91, 3) := by decide +kernel
theorem d_Exp_increase_25 : decode b_Exp_increase 25 = .ok (.getfield 95, 3) := by decide +kernel
theorem d_Exp_increase_28 : decode b_Exp_increase 28 = .ok (.aload_n 1, 1) := by decide +kernel
theorem d_Exp_increase_29 : decode b_Exp_increase 29 = .ok (.getfield 91, 3) := by decide +kernel
theorem d_Exp_increase_32 : decode b_Exp_increase 32 = .ok (.getfield 100, 3) := by decide +kernel
theorem d_Exp_increase_35 : decode b_Exp_increase 35 = .ok (.aload_n 1, 1) := by decide +kernel
theorem d_Exp_increase_36 : decode b_Exp_increase 36 = .ok (.getfield 91, 3) := by decide +kernel
theorem d_Exp_increase_39 : decode b_Exp_increase 39 = .ok (.getfield 103, 3) := by decide +kernel
theorem d_Exp_increase_42 : decode b_Exp_increase 42 = .ok (.invokevirtual 106, 3) := by decide +kernel
theorem d_Exp_increase_45 : decode b_Exp_increase 45 = .ok (.pop, 1) := by decide +kernel
theorem d_Exp_increase_46 : decode b_Exp_increase 46 = .ok (.aload_n 1, 1) := by decide +kernel
theorem d_Exp_increase_47 : decode b_Exp_increase 47 = .ok (.iconst 3, 1) := by decide +kernel
theorem d_Exp_increase_48 : decode b_Exp_increase 48 = .ok (.invokevirtual 147, 3) := by decide +kernel
theorem d_Exp_increase_51 : decode b_Exp_increase 51 = .ok (.return_, 1) := by decide +kernel
theorem q_Exp_increase : px_y y_Exp_increase 3 := by unfold px_y; decide +kernel
set_option maxHeartbeats 4000000 in
set_option maxRecDepth 100000 in
theorem c_ex_increase (l : Launch) (D : va_G) (cs : Nat → ClassId) (he : Nat) (re : Nat → Nat) (eo : Nat → Option Nat) (ef : Nat → Int32) (ea : Nat → Nat → Int32) (eg : Nat → Nat → Option Nat) (rp : Nat → Nat) (of : Option Nat) (cn : Nat) (fp : Nat → Int32) (cd : Nat → Int32) (P : va_W) (hx : Nat) (ox : Option Nat) (fx : Nat → Int32) (p0 p1 : Int32)  (g0 : cn % 4 = 0) (g1 : cn ≤ 100000) (g2 : 1 ≤ (fx 5).toInt) (g3 : (fx 5).toInt ≤ 1000000) (hpk : Pok cn (fp 3) cd) (hsx : Sy P ox) : MetV l y_Exp_increase b_Exp_increase 4 D cs 1 40 (0) (0) [.ref he, .ref hx, .int p0, .int p1] [wd_Exp cs he re eo ef ea eg, wd_Prg cs (re 2) rp (fun k => if k = 2 then of else none) fp (fun _ _ => 0) (fun _ _ => none), [((rp 1), .inl (cs 0, cn, .inl cd))], P, wd_Opd cs hx (fun _ => 0) (fun k => if k = 4 then ox else none) fx (fun _ _ => 0) (fun _ _ => none)] (fun _ => True) (fun ps => ∃ (fp' : Nat → Int32) (cd' : Nat → Int32) (fx' : Nat → Int32), (ps = [wd_Exp cs he re eo ef ea eg, wd_Prg cs (re 2) rp (fun k => if k = 2 then of else none) fp' (fun _ _ => 0) (fun _ _ => none), [((rp 1), .inl (cs 0, cn, .inl cd'))], P, wd_Opd cs hx (fun _ => 0) (fun k => if k = 4 then ox else none) fx' (fun _ _ => 0) (fun _ _ => none)]) ∧ ((fx' 0).toInt = (fx 0).toInt) ∧ ((fx' 3).toInt = (fx 3).toInt) ∧ ((fx' 5).toInt = (fx 5).toInt + 1) ∧ (Prel cn (fp 3) cd (fp' 3) cd') ∧ ((fp' 3).toInt ≤ (fp 3).toInt + 4)) := by
  refine px_enter (by decide) (Nat.le_of_ble_eq_true rfl) ?_
  intro p e s m below meth c A ls hAe S hr hlk hnm hA hT hX hw hl
  replace hl : lv_has ls 4 [(0, .ref he), (1, .ref hx), (2, .int p0), (3, .int p1)] := hl
  have lp0 := Int32.le_toInt p0
  have up0 := Int32.toInt_lt p0
  have lp1 := Int32.le_toInt p1
  have up1 := Int32.toInt_lt p1
  have cst3 : (3 : Int32).toInt = 3 := rfl
  have cst5 : (5 : Int32).toInt = 5 := rfl
  have cst8 : (8 : Int32).toInt = 8 := rfl
  have hrel := Prel.rf hpk
  have pz0 := hrel.nm
  have J46 : ∀ (fp_46 : Nat → Int32) (cd_46 : Nat → Int32) (fx_46 : Nat → Int32) (H : Heap) (locs : List Loc) (ls : Array Slot), ((fx_46 0).toInt = (fx 0).toInt) → ((fx_46 3).toInt = (fx 3).toInt) → ((fx_46 5).toInt = (fx 5).toInt) → (Prel cn (fp 3) cd (fp_46 3) cd_46) → ((fp_46 3).toInt ≤ (fp 3).toInt + 4) → pw D A s.heap H locs [wd_Exp cs he re eo ef ea eg, wd_Prg cs (re 2) rp (fun k => if k = 2 then of else none) fp_46 (fun _ _ => 0) (fun _ _ => none), [((rp 1), .inl (cs 0, cn, .inl cd_46))], P, wd_Opd cs hx (fun _ => 0) (fun k => if k = 4 then ox else none) fx_46 (fun _ _ => 0) (fun _ _ => none)] → lv_has ls 4 [(0, .ref he), (1, .ref hx), (2, .int p0), (3, .int p1)] → W p l e { frames := 1, cells := 0, slots := 0, locals := 40 } s m [.ref he, .ref hx, .int p0, .int p1].toArray below meth c H locs 0 0 (MQ below (va_Qv (fun ps => ∃ (fp' : Nat → Int32) (cd' : Nat → Int32) (fx' : Nat → Int32), (ps = [wd_Exp cs he re eo ef ea eg, wd_Prg cs (re 2) rp (fun k => if k = 2 then of else none) fp' (fun _ _ => 0) (fun _ _ => none), [((rp 1), .inl (cs 0, cn, .inl cd'))], P, wd_Opd cs hx (fun _ => 0) (fun k => if k = 4 then ox else none) fx' (fun _ _ => 0) (fun _ _ => none)]) ∧ ((fx' 0).toInt = (fx 0).toInt) ∧ ((fx' 3).toInt = (fx 3).toInt) ∧ ((fx' 5).toInt = (fx 5).toInt + 1) ∧ (Prel cn (fp 3) cd (fp' 3) cd') ∧ ((fp' 3).toInt ≤ (fp 3).toInt + 4)) (pc_B D (va_A ([wd_Exp cs he re eo ef ea eg, wd_Prg cs (re 2) rp (fun k => if k = 2 then of else none) fp (fun _ _ => 0) (fun _ _ => none), [((rp 1), .inl (cs 0, cn, .inl cd))], P, wd_Opd cs hx (fun _ => 0) (fun k => if k = 4 then ox else none) fx (fun _ _ => 0) (fun _ _ => none)] : List va_W).flatten s.heap.size)) (va_A ([wd_Exp cs he re eo ef ea eg, wd_Prg cs (re 2) rp (fun k => if k = 2 then of else none) fp (fun _ _ => 0) (fun _ _ => none), [((rp 1), .inl (cs 0, cn, .inl cd))], P, wd_Opd cs hx (fun _ => 0) (fun k => if k = 4 then ox else none) fx (fun _ _ => 0) (fun _ _ => none)] : List va_W).flatten s.heap.size)) [.ref he, .ref hx, .int p0, .int p1].toArray s 0 0 A) (F0 m 46 ls []) := by
    intro fp_46 cd_46 fx_46 H locs ls k46_0 k46_1 k46_2 k46_3 k46_4 hw hl
    have hrel := k46_3
    have pz46 := hrel.nm
    refine lv_aload_n S.x S.b d_Exp_increase_46 rfl (lv_at hl 1 rfl) ?_
    refine lv_iconst (v := 3) S.x S.b d_Exp_increase_47 (by decide) ?_
    refine px_callv (pr := [wd_Exp cs he re eo ef ea eg, wd_Prg cs (re 2) rp (fun k => if k = 2 then of else none) fp_46 (fun _ _ => 0) (fun _ _ => none), [((rp 1), .inl (cs 0, cn, .inl cd_46))], P]) (px_runV (As := [.int 3]) (rest := []) S (c_Opd_become l D cs hx ox fx_46 3  (show 1 ≤ (fx_46 5).toInt from by first | exact oz_a97abccd3f k46_2 g2 | omega) (show (fx_46 5).toInt ≤ 1000000 from by first | exact oz_82177ca36c k46_2 g3 | omega) _) hT (pr := [wd_Exp cs he re eo ef ea eg, wd_Prg cs (re 2) rp (fun k => if k = 2 then of else none) fp_46 (fun _ _ => 0) (fun _ _ => none), [((rp 1), .inl (cs 0, cn, .inl cd_46))], P]) (pcs := [wd_Opd cs hx (fun _ => 0) (fun k => if k = 4 then ox else none) fx_46 (fun _ _ => 0) (fun _ _ => none)]) hw px_X.tt (px_recv hT hw 4 0 rfl rfl rfl) m4_185 m4_182 m4_183 m4_184 m1_31 q_Opd_become ⟨Nat.le_of_ble_eq_true rfl, Nat.le_of_ble_eq_true rfl⟩ hl.1 rfl (Nat.le_of_ble_eq_true rfl) d_Exp_increase_48 ⟨Nat.le_of_ble_eq_true rfl, Nat.le_of_ble_eq_true rfl⟩) hw hA (fun p2 H locs hp2 hw => ?_)
    obtain ⟨fx1, rfl, e4, e5, e6, e7, e8, e9, e10, e11⟩ := hp2
    replace e4 : (fx1 0).toInt = (fx_46 0).toInt := e4
    replace e5 : (fx1 1).toInt = 0 := e5
    replace e6 : (fx1 2).toInt = (3 : Int) := e6
    replace e7 : (fx1 3).toInt = (fx_46 3).toInt := e7
    replace e8 : (fx1 5).toInt = (fx_46 5).toInt + 1 := e8
    replace e9 : (fx1 6).toInt = (fx_46 6).toInt := e9
    replace e10 : (fx1 7).toInt = 0 := e10
    replace e11 : (fx1 8).toInt = (fx_46 8).toInt := e11
    replace hw : pw D A s.heap H locs [wd_Exp cs he re eo ef ea eg, wd_Prg cs (re 2) rp (fun k => if k = 2 then of else none) fp_46 (fun _ _ => 0) (fun _ _ => none), [((rp 1), .inl (cs 0, cn, .inl cd_46))], P, wd_Opd cs hx (fun _ => 0) (fun k => if k = 4 then ox else none) fx1 (fun _ _ => 0) (fun _ _ => none)] := hw
    exact px_vret S hr hlk hAe hw (Nat.le_of_ble_eq_true rfl) (Nat.le_of_ble_eq_true rfl) (⟨fp_46, cd_46, fx1, rfl, (show (fx1 0).toInt = (fx 0).toInt from by first | exact oz_1687f4cc65 k46_0 e4 | omega), (show (fx1 3).toInt = (fx 3).toInt from by first | exact oz_1687f4cc65 k46_1 e7 | omega), (show (fx1 5).toInt = (fx 5).toInt + 1 from by first | exact oz_cbf156e4b5 k46_2 e8 | omega), (show Prel cn (fp 3) cd (fp_46 3) cd_46 from hrel), (show (fp_46 3).toInt ≤ (fp 3).toInt + 4 from by first | exact k46_4 | omega)⟩) d_Exp_increase_51
  refine lv_iload_n S.x S.b d_Exp_increase_0 rfl (lv_at hl 3 rfl) ?_
  refine lv_if_eq (tgt := 46) S.x S.b d_Exp_increase_1 (by decide) (fun c12 => ?_) (fun c12 => ?_)
  · have nc12 : p1.toInt = (0 : Int) := (i_eq (x := p1) (y := 0)).mp c12
    exact J46 fp cd fx _ _ ls (show (fx 0).toInt = (fx 0).toInt from rfl) (show (fx 3).toInt = (fx 3).toInt from rfl) (show (fx 5).toInt = (fx 5).toInt from rfl) (show Prel cn (fp 3) cd (fp 3) cd from hrel) (show (fp 3).toInt ≤ (fp 3).toInt + 4 from by first | exact oz_4550f3b49c | omega) hw (lv_sub hl [0, 1, 2, 3] rfl)
  · have nc12 : ¬ p1.toInt = (0 : Int) := mt (i_eq (x := p1) (y := 0)).mpr c12
    refine lv_aload_n S.x S.b d_Exp_increase_4 rfl (lv_at hl 1 rfl) ?_
    refine px_get S k_Opd hT hw 4 0 4 (v := va_rf ox) rfl rfl rfl (by decide) m4_226 d_Exp_increase_5 ?_
    refine lq_ifnull (x := ox) (tgt := 46) S.x S.b d_Exp_increase_8 (by decide) (fun c13 => ?_) (fun q14 c13 => ?_)
    ·
      subst c13
      exact J46 fp cd fx _ _ ls (show (fx 0).toInt = (fx 0).toInt from rfl) (show (fx 3).toInt = (fx 3).toInt from rfl) (show (fx 5).toInt = (fx 5).toInt from rfl) (show Prel cn (fp 3) cd (fp 3) cd from hrel) (show (fp 3).toInt ≤ (fp 3).toInt + 4 from by first | exact oz_4550f3b49c | omega) hw (lv_sub hl [0, 1, 2, 3] rfl)
    ·
      subst c13
      refine lv_aload_n S.x S.b d_Exp_increase_11 rfl (lv_at hl 0 rfl) ?_
      refine px_get S k_Exp hT hw 0 0 2 (v := .ref (re 2)) rfl rfl rfl (by decide) m2_133 d_Exp_increase_12 ?_
      refine lv_iconst (v := 5) S.x S.b d_Exp_increase_15 (by decide) ?_
      refine lv_iload_n S.x S.b d_Exp_increase_16 rfl (lv_at hl 2 rfl) ?_
      refine lv_bipush (v := 8) S.x S.b d_Exp_increase_17 (by decide) ?_
      refine lv_ishl S.x S.b d_Exp_increase_19 ?_
      refine lv_topi (fun z15 ez15 => ?_)
      have lz15 := Int32.le_toInt z15
      have uz15 := Int32.toInt_lt z15
      have tz15 : 0 ≤ p0.toInt → p0.toInt * 256 < 2147483648 → z15.toInt = p0.toInt * 256 := by rw [ez15]; exact i_shl p0 8 (k := 8) (d := 256) (by decide) (by decide)
      refine lv_ior S.x S.b d_Exp_increase_20 ?_
      refine lv_topi (fun z16 ez16 => ?_)
      have lz16 := Int32.le_toInt z16
      have uz16 := Int32.toInt_lt z16
      have hjp : ∀ q, Jop z16 q := fun q => jop_low (by rw [ez16, ez15, or_shl8 5 _ (by decide)]; decide)
      refine lv_aload_n S.x S.b d_Exp_increase_21 rfl (lv_at hl 1 rfl) ?_
      refine px_get S k_Opd hT hw 4 0 4 (v := .ref q14) rfl rfl rfl (by decide) m4_226 d_Exp_increase_22 ?_
      obtain ⟨j17, s18, hj19⟩ := (show Sy P (some q14) by first | assumption | exact Fy.sy (by assumption)).at
      refine px_get S k_Sym hT hw 3 j17 2 (v := .int (s18 2)) rfl hj19 rfl (by decide) m1_213 d_Exp_increase_25 ?_
      refine lv_aload_n S.x S.b d_Exp_increase_28 rfl (lv_at hl 1 rfl) ?_
      refine px_get S k_Opd hT hw 4 0 4 (v := .ref q14) rfl rfl rfl (by decide) m4_226 d_Exp_increase_29 ?_
      refine px_get S k_Sym hT hw 3 j17 3 (v := .int (s18 3)) rfl hj19 rfl (by decide) m1_216 d_Exp_increase_32 ?_
      refine lv_aload_n S.x S.b d_Exp_increase_35 rfl (lv_at hl 1 rfl) ?_
      refine px_get S k_Opd hT hw 4 0 4 (v := .ref q14) rfl rfl rfl (by decide) m4_226 d_Exp_increase_36 ?_
      refine px_get S k_Sym hT hw 3 j17 4 (v := .int (s18 4)) rfl hj19 rfl (by decide) m1_219 d_Exp_increase_39 ?_
      have hw : pw D A s.heap _ _ [wd_Exp cs he re eo ef ea eg, P, wd_Opd cs hx (fun _ => 0) (fun k => if k = 4 then (some q14) else none) fx (fun _ _ => 0) (fun _ _ => none), wd_Prg cs (re 2) rp (fun k => if k = 2 then of else none) fp (fun _ _ => 0) (fun _ _ => none), [((rp 1), .inl (cs 0, cn, .inl cd))]] := hw.sub [0, 3, 4, 1, 2] rfl rfl
      refine px_calli (pr := [wd_Exp cs he re eo ef ea eg, P, wd_Opd cs hx (fun _ => 0) (fun k => if k = 4 then (some q14) else none) fx (fun _ _ => 0) (fun _ _ => none)]) (px_runV (As := [.int z16, .int (s18 2), .int (s18 3), .int (s18 4)]) (rest := []) S (c_pe_emit l D cs (re 2) rp of cn fp cd z16 (s18 2) (s18 3) (s18 4)  (show cn % 4 = 0 from by first | exact g0 | omega) (show cn ≤ 100000 from by first | exact g1 | omega) hrel.1 (hjp _) _) hT (pr := [wd_Exp cs he re eo ef ea eg, P, wd_Opd cs hx (fun _ => 0) (fun k => if k = 4 then (some q14) else none) fx (fun _ _ => 0) (fun _ _ => none)]) (pcs := [wd_Prg cs (re 2) rp (fun k => if k = 2 then of else none) fp (fun _ _ => 0) (fun _ _ => none), [((rp 1), .inl (cs 0, cn, .inl cd))]]) hw px_X.tt (px_recv hT hw 3 0 rfl rfl rfl) m4_181 m4_178 m4_179 m4_180 m1_16 q_Prg_emit ⟨Nat.le_of_ble_eq_true rfl, Nat.le_of_ble_eq_true rfl⟩ hl.1 rfl (Nat.le_of_ble_eq_true rfl) d_Exp_increase_42 ⟨Nat.le_of_ble_eq_true rfl, Nat.le_of_ble_eq_true rfl⟩) hw hA (fun v25 p24 H locs hp24 hw => ?_)
      obtain ⟨fp22, cd23, rfl, hv_v25, hem, hwx, hsz, k0fp22, k4fp22, k5fp22⟩ := hp24
      have tv_v25 : v25.toInt = (fp 3).toInt := by rw [hv_v25]
      have hrel := hrel.tr hem
      have pz26 := hrel.nm
      have hsl_fp22 : (fp22 3).toInt ≤ (fp 3).toInt + 4 := by omega
      clear hsz
      replace hw : pw D A s.heap H locs [wd_Exp cs he re eo ef ea eg, P, wd_Opd cs hx (fun _ => 0) (fun k => if k = 4 then (some q14) else none) fx (fun _ _ => 0) (fun _ _ => none), wd_Prg cs (re 2) rp (fun k => if k = 2 then of else none) fp22 (fun _ _ => 0) (fun _ _ => none), [((rp 1), .inl (cs 0, cn, .inl cd23))]] := hw
      have lv25 := Int32.le_toInt v25
      have uv25 := Int32.toInt_lt v25
      refine lv_pop S.x S.b d_Exp_increase_45 rfl ?_
      have hw : pw D A s.heap _ _ [wd_Exp cs he re eo ef ea eg, wd_Prg cs (re 2) rp (fun k => if k = 2 then of else none) fp22 (fun _ _ => 0) (fun _ _ => none), [((rp 1), .inl (cs 0, cn, .inl cd23))], P, wd_Opd cs hx (fun _ => 0) (fun k => if k = 4 then (some q14) else none) fx (fun _ _ => 0) (fun _ _ => none)] := hw.sub [0, 3, 4, 1, 2] rfl rfl
      exact J46 fp22 cd23 fx _ _ ls (show (fx 0).toInt = (fx 0).toInt from rfl) (show (fx 3).toInt = (fx 3).toInt from rfl) (show (fx 5).toInt = (fx 5).toInt from rfl) (show Prel cn (fp 3) cd (fp22 3) cd23 from hrel) (show (fp22 3).toInt ≤ (fp 3).toInt + 4 from by first | exact hsl_fp22 | omega) hw (lv_sub hl [0, 1, 2, 3] rfl)
abbrev b_Exp_typeOf : ByteArray := prog_3_method_25_code
def y_Exp_typeOf : MethodName := ⟨"HomeSystem$Expressions", "typeOf", "(LHomeSystem$Symbol;)I"⟩
theorem d_Exp_typeOf_0 : decode b_Exp_typeOf 0 = .ok (.aload_n 0, 1) := by decide +kernel
theorem d_Exp_typeOf_1 : decode b_Exp_typeOf 1 = .ok (.getfield 95, 3) := by decide +kernel
theorem d_Exp_typeOf_4 : decode b_Exp_typeOf 4 = .ok (.iconst 2, 1) := by decide +kernel
theorem d_Exp_typeOf_5 : decode b_Exp_typeOf 5 = .ok (.iand, 1) := by decide +kernel
theorem d_Exp_typeOf_6 : decode b_Exp_typeOf 6 = .ok (.ifCond .eq 7, 3) := by decide +kernel
theorem d_Exp_typeOf_9 : decode b_Exp_typeOf 9 = .ok (.iconst 2, 1) := by decide +kernel
theorem d_Exp_typeOf_10 : decode b_Exp_typeOf 10 = .ok (.goto 4, 3) := by decide +kernel
theorem d_Exp_typeOf_13 : decode b_Exp_typeOf 13 = .ok (.iconst 1, 1) := by decide +kernel
theorem d_Exp_typeOf_14 : decode b_Exp_typeOf 14 = .ok (.ireturn, 1) := by decide +kernel
theorem q_Exp_typeOf : px_y y_Exp_typeOf 1 := by unfold px_y; decide +kernel
set_option maxHeartbeats 4000000 in
set_option maxRecDepth 100000 in
theorem c_ex_typeOf (l : Launch) (D : va_G) (cs : Nat → ClassId) (P : va_W) (fa : Nat) (hsy : Sy P (some fa)) : MetI l y_Exp_typeOf b_Exp_typeOf 1 (.int) D cs 0 0 (0) (0) [.ref fa] [P] (fun _ => True) (fun v ps => (ps = [P])) := by
  refine px_enter (by decide) (Nat.le_of_ble_eq_true rfl) ?_
  intro p e s m below meth c A ls hAe S hr hlk hnm hA hT hX hw hl
  replace hl : lv_has ls 1 [(0, .ref fa)] := hl
  have cst1 : (1 : Int32).toInt = 1 := rfl
  have cst2 : (2 : Int32).toInt = 2 := rfl
  refine lv_aload_n S.x S.b d_Exp_typeOf_0 rfl (lv_at hl 0 rfl) ?_
  obtain ⟨j1, s2, hj3⟩ := (show Sy P (some fa) by first | assumption | exact Fy.sy (by assumption)).at
  refine px_get S k_Sym hT hw 0 j1 2 (v := .int (s2 2)) rfl hj3 rfl (by decide) m1_213 d_Exp_typeOf_1 ?_
  refine lv_iconst (v := 2) S.x S.b d_Exp_typeOf_4 (by decide) ?_
  refine lv_iand S.x S.b d_Exp_typeOf_5 ?_
  have lr4 := Int32.le_toInt (s2 2)
  have ur4 := Int32.toInt_lt (s2 2)
  refine lv_topi (fun z5 ez5 => ?_)
  have lz5 := Int32.le_toInt z5
  have uz5 := Int32.toInt_lt z5
  refine lv_if_eq (tgt := 13) S.x S.b d_Exp_typeOf_6 (by decide) (fun c6 => ?_) (fun c6 => ?_)
  · have nc6 : z5.toInt = (0 : Int) := (i_eq (x := z5) (y := 0)).mp c6
    refine lv_iconst (v := 1) S.x S.b d_Exp_typeOf_13 (by decide) ?_
    exact px_iret (v := 1) S hr rfl hlk hAe hw (Nat.le_of_ble_eq_true rfl) (Nat.le_of_ble_eq_true rfl) (rfl) d_Exp_typeOf_14
  · have nc6 : ¬ z5.toInt = (0 : Int) := mt (i_eq (x := z5) (y := 0)).mpr c6
    refine lv_iconst (v := 2) S.x S.b d_Exp_typeOf_9 (by decide) ?_
    refine lv_goto (tgt := 14) S.x S.b d_Exp_typeOf_10 (by decide) ?_
    exact px_iret (v := 2) S hr rfl hlk hAe hw (Nat.le_of_ble_eq_true rfl) (Nat.le_of_ble_eq_true rfl) (rfl) d_Exp_typeOf_14
abbrev b_Exp_hand : ByteArray := prog_3_method_24_code
def y_Exp_hand : MethodName := ⟨"HomeSystem$Expressions", "hand", "(LHomeSystem$Operand;I)V"⟩
theorem d_Exp_hand_0 : decode b_Exp_hand 0 = .ok (.aload_n 1, 1) := by decide +kernel
theorem d_Exp_hand_1 : decode b_Exp_hand 1 = .ok (.getfield 79, 3) := by decide +kernel
theorem d_Exp_hand_4 : decode b_Exp_hand 4 = .ok (.iconst 2, 1) := by decide +kernel
theorem d_Exp_hand_5 : decode b_Exp_hand 5 = .ok (.if_icmp .ne 10, 3) := by decide +kernel
theorem d_Exp_hand_8 : decode b_Exp_hand 8 = .ok (.aload_n 1, 1) := by decide +kernel
theorem d_Exp_hand_9 : decode b_Exp_hand 9 = .ok (.getfield 91, 3) := by decide +kernel
theorem d_Exp_hand_12 : decode b_Exp_hand 12 = .ok (.goto 4, 3) := by decide +kernel
theorem d_Exp_hand_15 : decode b_Exp_hand 15 = .ok (.aconst_null, 1) := by decide +kernel
theorem d_Exp_hand_16 : decode b_Exp_hand 16 = .ok (.astore_n 3, 1) := by decide +kernel
theorem d_Exp_hand_17 : decode b_Exp_hand 17 = .ok (.iload_n 2, 1) := by decide +kernel
theorem d_Exp_hand_18 : decode b_Exp_hand 18 = .ok (.iconst 2, 1) := by decide +kernel
theorem d_Exp_hand_19 : decode b_Exp_hand 19 = .ok (.if_icmp .ne 19, 3) := by decide +kernel
theorem d_Exp_hand_22 : decode b_Exp_hand 22 = .ok (.aload_n 0, 1) := by decide +kernel
theorem d_Exp_hand_23 : decode b_Exp_hand 23 = .ok (.getfield 19, 3) := by decide +kernel
theorem d_Exp_hand_26 : decode b_Exp_hand 26 = .ok (.bipush 10, 2) := by decide +kernel
theorem d_Exp_hand_28 : decode b_Exp_hand 28 = .ok (.iconst 0, 1) := by decide +kernel
theorem d_Exp_hand_29 : decode b_Exp_hand 29 = .ok (.iconst 0, 1) := by decide +kernel
theorem d_Exp_hand_30 : decode b_Exp_hand 30 = .ok (.iconst 0, 1) := by decide +kernel
theorem d_Exp_hand_31 : decode b_Exp_hand 31 = .ok (.invokevirtual 106, 3) := by decide +kernel
theorem d_Exp_hand_34 : decode b_Exp_hand 34 = .ok (.pop, 1) := by decide +kernel
theorem d_Exp_hand_35 : decode b_Exp_hand 35 = .ok (.goto 81, 3) := by decide +kernel
theorem d_Exp_hand_38 : decode b_Exp_hand 38 = .ok (.iload_n 2, 1) := by decide +kernel
theorem d_Exp_hand_39 : decode b_Exp_hand 39 = .ok (.bipush 16, 2) := by decide +kernel
theorem d_Exp_hand_41 : decode b_Exp_hand 41 = .ok (.if_icmp .lt 49, 3) := by decide +kernel
theorem d_Exp_hand_44 : decode b_Exp_hand 44 = .ok (.aload_n 3, 1) := by decide +kernel
theorem d_Exp_hand_45 : decode b_Exp_hand 45 = .ok (.ifnull 45, 3) := by decide +kernel
theorem d_Exp_hand_48 : decode b_Exp_hand 48 = .ok (.iload_n 2, 1) := by decide +kernel
theorem d_Exp_hand_49 : decode b_Exp_hand 49 = .ok (.bipush 16, 2) := by decide +kernel
theorem d_Exp_hand_51 : decode b_Exp_hand 51 = .ok (.if_icmp .eq 14, 3) := by decide +kernel
theorem d_Exp_hand_54 : decode b_Exp_hand 54 = .ok (.iload_n 2, 1) := by decide +kernel
theorem d_Exp_hand_55 : decode b_Exp_hand 55 = .ok (.bipush 16, 2) := by decide +kernel
theorem d_Exp_hand_57 : decode b_Exp_hand 57 = .ok (.aload_n 3, 1) := by decide +kernel
theorem d_Exp_hand_58 : decode b_Exp_hand 58 = .ok (.invokestatic 235, 3) := by decide +kernel
theorem d_Exp_hand_61 : decode b_Exp_hand 61 = .ok (.iadd, 1) := by decide +kernel
theorem d_Exp_hand_62 : decode b_Exp_hand 62 = .ok (.if_icmp .ne 28, 3) := by decide +kernel
theorem d_Exp_hand_65 : decode b_Exp_hand 65 = .ok (.aload_n 0, 1) := by decide +kernel
theorem d_Exp_hand_66 : decode b_Exp_hand 66 = .ok (.getfield 19, 3) := by decide +kernel
theorem d_Exp_hand_69 : decode b_Exp_hand 69 = .ok (.bipush 11, 2) := by decide +kernel
theorem d_Exp_hand_71 : decode b_Exp_hand 71 = .ok (.aload_n 3, 1) := by decide +kernel
theorem d_Exp_hand_72 : decode b_Exp_hand 72 = .ok (.getfield 95, 3) := by decide +kernel
theorem d_Exp_hand_75 : decode b_Exp_hand 75 = .ok (.aload_n 3, 1) := by decide +kernel
theorem d_Exp_hand_76 : decode b_Exp_hand 76 = .ok (.getfield 100, 3) := by decide +kernel
theorem d_Exp_hand_79 : decode b_Exp_hand 79 = .ok (.aload_n 3, 1) := by decide +kernel
theorem d_Exp_hand_80 : decode b_Exp_hand 80 = .ok (.getfield 103, 3) := by decide +kernel
theorem d_Exp_hand_83 : decode b_Exp_hand 83 = .ok (.invokevirtual 106, 3) := by decide +kernel
theorem d_Exp_hand_86 : decode b_Exp_hand 86 = .ok (.pop, 1) := by decide +kernel
theorem d_Exp_hand_87 : decode b_Exp_hand 87 = .ok (.goto 29, 3) := by decide +kernel
theorem d_Exp_hand_90 : decode b_Exp_hand 90 = .ok (.iload_n 2, 1) := by decide +kernel
theorem d_Exp_hand_91 : decode b_Exp_hand 91 = .ok (.bipush 16, 2) := by decide +kernel
theorem d_Exp_hand_93 : decode b_Exp_hand 93 = .ok (.if_icmp .lt 23, 3) := by decide +kernel
theorem d_Exp_hand_96 : decode b_Exp_hand 96 = .ok (.aload_n 1, 1) := by decide +kernel
theorem d_Exp_hand_97 : decode b_Exp_hand 97 = .ok (.getfield 79, 3) := by decide +kernel
theorem d_Exp_hand_100 : decode b_Exp_hand 100 = .ok (.iconst 4, 1) := by decide +kernel
theorem d_Exp_hand_101 : decode b_Exp_hand 101 = .ok (.if_icmp .eq 15, 3) := by decide +kernel
theorem d_Exp_hand_104 : decode b_Exp_hand 104 = .ok (.aload_n 0, 1) := by decide +kernel
theorem d_Exp_hand_105 : decode b_Exp_hand 105 = .ok (.getfield 9, 3) := by decide +kernel
theorem d_Exp_hand_108 : decode b_Exp_hand 108 = .ok (.iconst 3, 1) := by decide +kernel
theorem d_Exp_hand_109 : decode b_Exp_hand 109 = .ok (.aload_n 1, 1) := by decide +kernel
theorem d_Exp_hand_110 : decode b_Exp_hand 110 = .ok (.getfield 82, 3) := by decide +kernel
theorem d_Exp_hand_113 : decode b_Exp_hand 113 = .ok (.invokevirtual 85, 3) := by decide +kernel
theorem d_Exp_hand_116 : decode b_Exp_hand 116 = .ok (.return_, 1) := by decide +kernel
theorem q_Exp_hand : px_y y_Exp_hand 2 := by unfold px_y; decide +kernel
set_option maxHeartbeats 4000000 in
set_option maxRecDepth 100000 in
theorem c_ex_hand (l : Launch) (D : va_G) (cs : Nat → ClassId) (he : Nat) (re : Nat → Nat) (eo : Nat → Option Nat) (ef : Nat → Int32) (ea : Nat → Nat → Int32) (eg : Nat → Nat → Option Nat) (rt : Nat → Nat) (ot : Nat → Option Nat) (ta : Nat → Nat → Int32) (tg : Nat → Nat → Option Nat) (tf : Nat → Int32) (rp : Nat → Nat) (of : Option Nat) (cn : Nat) (fp : Nat → Int32) (cd : Nat → Int32) (P : va_W) (hx : Nat) (ox : Option Nat) (fx : Nat → Int32) (p0 : Int32)  (hinv0 : CurOk (tf 10) (tf 13) (tf 14) (tf 15) (tf 17) (ta 0)) (g0 : cn % 4 = 0) (g1 : cn ≤ 100000) (g2 : 0 ≤ (fx 0).toInt) (g3 : 0 ≤ (fx 3).toInt) (hpk : Pok cn (fp 3) cd) (hsx : Sy P ox) : MetV l y_Exp_hand b_Exp_hand 4 D cs 1 40 (0) (0) [.ref he, .ref hx, .int p0] [wd_Exp cs he re eo ef ea eg, wd_Tok cs (re 0) rt ot tf ta tg, wd_Prg cs (re 2) rp (fun k => if k = 2 then of else none) fp (fun _ _ => 0) (fun _ _ => none), [((rp 1), .inl (cs 0, cn, .inl cd))], P, wd_Opd cs hx (fun _ => 0) (fun k => if k = 4 then ox else none) fx (fun _ _ => 0) (fun _ _ => none)] (fun _ => True) (fun ps => ∃ (tf' : Nat → Int32) (fp' : Nat → Int32) (cd' : Nat → Int32), (ps = [wd_Exp cs he re eo ef ea eg, wd_Tok cs (re 0) rt ot tf' ta tg, wd_Prg cs (re 2) rp (fun k => if k = 2 then of else none) fp' (fun _ _ => 0) (fun _ _ => none), [((rp 1), .inl (cs 0, cn, .inl cd'))], P, wd_Opd cs hx (fun _ => 0) (fun k => if k = 4 then ox else none) fx (fun _ _ => 0) (fun _ _ => none)]) ∧ (CurOk (tf' 10) (tf' 13) (tf' 14) (tf' 15) (tf' 17) (ta 0)) ∧ ((tf' 10).toInt = (tf 10).toInt) ∧ ((tf' 13).toInt = (tf 13).toInt) ∧ ((tf' 14).toInt = (tf 14).toInt) ∧ ((tf' 15).toInt = (tf 15).toInt) ∧ (Prel cn (fp 3) cd (fp' 3) cd') ∧ ((fp' 3).toInt ≤ (fp 3).toInt + 4)) := by
  refine px_enter (by decide) (Nat.le_of_ble_eq_true rfl) ?_
  intro p e s m below meth c A ls hAe S hr hlk hnm hA hT hX hw hl
  replace hl : lv_has ls 4 [(0, .ref he), (1, .ref hx), (2, .int p0)] := hl
  have lp0 := Int32.le_toInt p0
  have up0 := Int32.toInt_lt p0
  have cst0 : (0 : Int32).toInt = 0 := rfl
  have cst2 : (2 : Int32).toInt = 2 := rfl
  have cst3 : (3 : Int32).toInt = 3 := rfl
  have cst4 : (4 : Int32).toInt = 4 := rfl
  have cst10 : (10 : Int32).toInt = 10 := rfl
  have cst11 : (11 : Int32).toInt = 11 := rfl
  have cst16 : (16 : Int32).toInt = 16 := rfl
  obtain ⟨⟨o1, o2⟩, ⟨o3, o4⟩, ⟨o5, o6⟩, o7, o8, hlast⟩ := hinv0
  have hrel := Prel.rf hpk
  have pz0 := hrel.nm
  have J116 : ∀ (tf_116 : Nat → Int32) (fp_116 : Nat → Int32) (cd_116 : Nat → Int32) (H : Heap) (locs : List Loc) (ls : Array Slot), (CurOk (tf_116 10) (tf_116 13) (tf_116 14) (tf_116 15) (tf_116 17) (ta 0)) → ((tf_116 10).toInt = (tf 10).toInt) → ((tf_116 13).toInt = (tf 13).toInt) → ((tf_116 14).toInt = (tf 14).toInt) → ((tf_116 15).toInt = (tf 15).toInt) → (Prel cn (fp 3) cd (fp_116 3) cd_116) → ((fp_116 3).toInt ≤ (fp 3).toInt + 4) → pw D A s.heap H locs [wd_Exp cs he re eo ef ea eg, wd_Tok cs (re 0) rt ot tf_116 ta tg, wd_Prg cs (re 2) rp (fun k => if k = 2 then of else none) fp_116 (fun _ _ => 0) (fun _ _ => none), [((rp 1), .inl (cs 0, cn, .inl cd_116))], P, wd_Opd cs hx (fun _ => 0) (fun k => if k = 4 then ox else none) fx (fun _ _ => 0) (fun _ _ => none)] → lv_has ls 4 [(0, .ref he), (1, .ref hx), (2, .int p0)] → W p l e { frames := 1, cells := 0, slots := 0, locals := 40 } s m [.ref he, .ref hx, .int p0].toArray below meth c H locs 0 0 (MQ below (va_Qv (fun ps => ∃ (tf' : Nat → Int32) (fp' : Nat → Int32) (cd' : Nat → Int32), (ps = [wd_Exp cs he re eo ef ea eg, wd_Tok cs (re 0) rt ot tf' ta tg, wd_Prg cs (re 2) rp (fun k => if k = 2 then of else none) fp' (fun _ _ => 0) (fun _ _ => none), [((rp 1), .inl (cs 0, cn, .inl cd'))], P, wd_Opd cs hx (fun _ => 0) (fun k => if k = 4 then ox else none) fx (fun _ _ => 0) (fun _ _ => none)]) ∧ (CurOk (tf' 10) (tf' 13) (tf' 14) (tf' 15) (tf' 17) (ta 0)) ∧ ((tf' 10).toInt = (tf 10).toInt) ∧ ((tf' 13).toInt = (tf 13).toInt) ∧ ((tf' 14).toInt = (tf 14).toInt) ∧ ((tf' 15).toInt = (tf 15).toInt) ∧ (Prel cn (fp 3) cd (fp' 3) cd') ∧ ((fp' 3).toInt ≤ (fp 3).toInt + 4)) (pc_B D (va_A ([wd_Exp cs he re eo ef ea eg, wd_Tok cs (re 0) rt ot tf ta tg, wd_Prg cs (re 2) rp (fun k => if k = 2 then of else none) fp (fun _ _ => 0) (fun _ _ => none), [((rp 1), .inl (cs 0, cn, .inl cd))], P, wd_Opd cs hx (fun _ => 0) (fun k => if k = 4 then ox else none) fx (fun _ _ => 0) (fun _ _ => none)] : List va_W).flatten s.heap.size)) (va_A ([wd_Exp cs he re eo ef ea eg, wd_Tok cs (re 0) rt ot tf ta tg, wd_Prg cs (re 2) rp (fun k => if k = 2 then of else none) fp (fun _ _ => 0) (fun _ _ => none), [((rp 1), .inl (cs 0, cn, .inl cd))], P, wd_Opd cs hx (fun _ => 0) (fun k => if k = 4 then ox else none) fx (fun _ _ => 0) (fun _ _ => none)] : List va_W).flatten s.heap.size)) [.ref he, .ref hx, .int p0].toArray s 0 0 A) (F0 m 116 ls []) := by
    intro tf_116 fp_116 cd_116 H locs ls hi116_0 k116_0 k116_1 k116_2 k116_3 k116_4 k116_5 hw hl
    obtain ⟨⟨o1, o2⟩, ⟨o3, o4⟩, ⟨o5, o6⟩, o7, o8, hlast⟩ := hi116_0
    have hrel := k116_4
    have pz116 := hrel.nm
    exact px_vret S hr hlk hAe hw (Nat.le_of_ble_eq_true rfl) (Nat.le_of_ble_eq_true rfl) (⟨tf_116, fp_116, cd_116, rfl, (show CurOk (tf_116 10) (tf_116 13) (tf_116 14) (tf_116 15) (tf_116 17) (ta 0) from ⟨⟨by first | exact o1 | omega, by first | exact o2 | omega⟩, ⟨by first | exact o3 | omega, by first | exact o4 | omega⟩, ⟨by first | exact o5 | omega, by first | exact o6 | omega⟩, by first | exact o7 | omega, by omega, last_eq hlast (rfl)⟩), (show (tf_116 10).toInt = (tf 10).toInt from by first | exact k116_0 | omega), (show (tf_116 13).toInt = (tf 13).toInt from by first | exact k116_1 | omega), (show (tf_116 14).toInt = (tf 14).toInt from by first | exact k116_2 | omega), (show (tf_116 15).toInt = (tf 15).toInt from by first | exact k116_3 | omega), (show Prel cn (fp 3) cd (fp_116 3) cd_116 from hrel), (show (fp_116 3).toInt ≤ (fp 3).toInt + 4 from by first | exact k116_5 | omega)⟩) d_Exp_hand_116
  have J90 : ∀ (tf_90 : Nat → Int32) (fp_90 : Nat → Int32) (cd_90 : Nat → Int32) (H : Heap) (locs : List Loc) (ls : Array Slot), (CurOk (tf_90 10) (tf_90 13) (tf_90 14) (tf_90 15) (tf_90 17) (ta 0)) → ((tf_90 10).toInt = (tf 10).toInt) → ((tf_90 13).toInt = (tf 13).toInt) → ((tf_90 14).toInt = (tf 14).toInt) → ((tf_90 15).toInt = (tf 15).toInt) → (Prel cn (fp 3) cd (fp_90 3) cd_90) → ((fp_90 3).toInt ≤ (fp 3).toInt + 4) → pw D A s.heap H locs [wd_Exp cs he re eo ef ea eg, wd_Tok cs (re 0) rt ot tf_90 ta tg, wd_Prg cs (re 2) rp (fun k => if k = 2 then of else none) fp_90 (fun _ _ => 0) (fun _ _ => none), [((rp 1), .inl (cs 0, cn, .inl cd_90))], P, wd_Opd cs hx (fun _ => 0) (fun k => if k = 4 then ox else none) fx (fun _ _ => 0) (fun _ _ => none)] → lv_has ls 4 [(0, .ref he), (1, .ref hx), (2, .int p0)] → W p l e { frames := 1, cells := 0, slots := 0, locals := 40 } s m [.ref he, .ref hx, .int p0].toArray below meth c H locs 0 0 (MQ below (va_Qv (fun ps => ∃ (tf' : Nat → Int32) (fp' : Nat → Int32) (cd' : Nat → Int32), (ps = [wd_Exp cs he re eo ef ea eg, wd_Tok cs (re 0) rt ot tf' ta tg, wd_Prg cs (re 2) rp (fun k => if k = 2 then of else none) fp' (fun _ _ => 0) (fun _ _ => none), [((rp 1), .inl (cs 0, cn, .inl cd'))], P, wd_Opd cs hx (fun _ => 0) (fun k => if k = 4 then ox else none) fx (fun _ _ => 0) (fun _ _ => none)]) ∧ (CurOk (tf' 10) (tf' 13) (tf' 14) (tf' 15) (tf' 17) (ta 0)) ∧ ((tf' 10).toInt = (tf 10).toInt) ∧ ((tf' 13).toInt = (tf 13).toInt) ∧ ((tf' 14).toInt = (tf 14).toInt) ∧ ((tf' 15).toInt = (tf 15).toInt) ∧ (Prel cn (fp 3) cd (fp' 3) cd') ∧ ((fp' 3).toInt ≤ (fp 3).toInt + 4)) (pc_B D (va_A ([wd_Exp cs he re eo ef ea eg, wd_Tok cs (re 0) rt ot tf ta tg, wd_Prg cs (re 2) rp (fun k => if k = 2 then of else none) fp (fun _ _ => 0) (fun _ _ => none), [((rp 1), .inl (cs 0, cn, .inl cd))], P, wd_Opd cs hx (fun _ => 0) (fun k => if k = 4 then ox else none) fx (fun _ _ => 0) (fun _ _ => none)] : List va_W).flatten s.heap.size)) (va_A ([wd_Exp cs he re eo ef ea eg, wd_Tok cs (re 0) rt ot tf ta tg, wd_Prg cs (re 2) rp (fun k => if k = 2 then of else none) fp (fun _ _ => 0) (fun _ _ => none), [((rp 1), .inl (cs 0, cn, .inl cd))], P, wd_Opd cs hx (fun _ => 0) (fun k => if k = 4 then ox else none) fx (fun _ _ => 0) (fun _ _ => none)] : List va_W).flatten s.heap.size)) [.ref he, .ref hx, .int p0].toArray s 0 0 A) (F0 m 90 ls []) := by
    intro tf_90 fp_90 cd_90 H locs ls hi90_0 k90_0 k90_1 k90_2 k90_3 k90_4 k90_5 hw hl
    obtain ⟨⟨o1, o2⟩, ⟨o3, o4⟩, ⟨o5, o6⟩, o7, o8, hlast⟩ := hi90_0
    have hrel := k90_4
    have pz90 := hrel.nm
    refine lv_iload_n S.x S.b d_Exp_hand_90 rfl (lv_at hl 2 rfl) ?_
    refine lv_bipush (v := 16) S.x S.b d_Exp_hand_91 (by decide) ?_
    refine lv_icmp_lt (tgt := 116) S.x S.b d_Exp_hand_93 (by decide) (fun c1 => ?_) (fun c1 => ?_)
    · have nc1 : p0.toInt < (16 : Int) := (i_lt (x := p0) (y := 16)).mp c1
      exact J116 tf_90 fp_90 cd_90 _ _ ls (show CurOk (tf_90 10) (tf_90 13) (tf_90 14) (tf_90 15) (tf_90 17) (ta 0) from ⟨⟨by first | exact o1 | omega, by first | exact o2 | omega⟩, ⟨by first | exact o3 | omega, by first | exact o4 | omega⟩, ⟨by first | exact o5 | omega, by first | exact o6 | omega⟩, by first | exact o7 | omega, by omega, last_eq hlast (rfl)⟩) (show (tf_90 10).toInt = (tf 10).toInt from by first | exact k90_0 | omega) (show (tf_90 13).toInt = (tf 13).toInt from by first | exact k90_1 | omega) (show (tf_90 14).toInt = (tf 14).toInt from by first | exact k90_2 | omega) (show (tf_90 15).toInt = (tf 15).toInt from by first | exact k90_3 | omega) (show Prel cn (fp 3) cd (fp_90 3) cd_90 from hrel) (show (fp_90 3).toInt ≤ (fp 3).toInt + 4 from by first | exact k90_5 | omega) hw (lv_sub hl [0, 1, 2] rfl)
    · have nc1 : ¬ p0.toInt < (16 : Int) := mt (i_lt (x := p0) (y := 16)).mpr c1
      refine lv_aload_n S.x S.b d_Exp_hand_96 rfl (lv_at hl 1 rfl) ?_
      refine px_get S k_Opd hT hw 5 0 1 (v := .int (fx 1)) rfl rfl rfl (by decide) m4_221 d_Exp_hand_97 ?_
      refine lv_iconst (v := 4) S.x S.b d_Exp_hand_100 (by decide) ?_
      refine lv_icmp_eq (tgt := 116) S.x S.b d_Exp_hand_101 (by decide) (fun c2 => ?_) (fun c2 => ?_)
      · have nc2 : (fx 1).toInt = (4 : Int) := (i_eq (x := (fx 1)) (y := 4)).mp c2
        exact J116 tf_90 fp_90 cd_90 _ _ ls (show CurOk (tf_90 10) (tf_90 13) (tf_90 14) (tf_90 15) (tf_90 17) (ta 0) from ⟨⟨by first | exact o1 | omega, by first | exact o2 | omega⟩, ⟨by first | exact o3 | omega, by first | exact o4 | omega⟩, ⟨by first | exact o5 | omega, by first | exact o6 | omega⟩, by first | exact o7 | omega, by omega, last_eq hlast (rfl)⟩) (show (tf_90 10).toInt = (tf 10).toInt from by first | exact k90_0 | omega) (show (tf_90 13).toInt = (tf 13).toInt from by first | exact k90_1 | omega) (show (tf_90 14).toInt = (tf 14).toInt from by first | exact k90_2 | omega) (show (tf_90 15).toInt = (tf 15).toInt from by first | exact k90_3 | omega) (show Prel cn (fp 3) cd (fp_90 3) cd_90 from hrel) (show (fp_90 3).toInt ≤ (fp 3).toInt + 4 from by first | exact k90_5 | omega) hw (lv_sub hl [0, 1, 2] rfl)
      · have nc2 : ¬ (fx 1).toInt = (4 : Int) := mt (i_eq (x := (fx 1)) (y := 4)).mpr c2
        refine lv_aload_n S.x S.b d_Exp_hand_104 rfl (lv_at hl 0 rfl) ?_
        refine px_get S k_Exp hT hw 0 0 0 (v := .ref (re 0)) rfl rfl rfl (by decide) m2_131 d_Exp_hand_105 ?_
        refine lv_iconst (v := 3) S.x S.b d_Exp_hand_108 (by decide) ?_
        refine lv_aload_n S.x S.b d_Exp_hand_109 rfl (lv_at hl 1 rfl) ?_
        refine px_get S k_Opd hT hw 5 0 0 (v := .int (fx 0)) rfl rfl rfl (by decide) m4_218 d_Exp_hand_110 ?_
        have hw : pw D A s.heap _ _ [wd_Exp cs he re eo ef ea eg, wd_Prg cs (re 2) rp (fun k => if k = 2 then of else none) fp_90 (fun _ _ => 0) (fun _ _ => none), [((rp 1), .inl (cs 0, cn, .inl cd_90))], P, wd_Opd cs hx (fun _ => 0) (fun k => if k = 4 then ox else none) fx (fun _ _ => 0) (fun _ _ => none), wd_Tok cs (re 0) rt ot tf_90 ta tg] := hw.sub [0, 2, 3, 4, 5, 1] rfl rfl
        refine px_callv (pr := [wd_Exp cs he re eo ef ea eg, wd_Prg cs (re 2) rp (fun k => if k = 2 then of else none) fp_90 (fun _ _ => 0) (fun _ _ => none), [((rp 1), .inl (cs 0, cn, .inl cd_90))], P, wd_Opd cs hx (fun _ => 0) (fun k => if k = 4 then ox else none) fx (fun _ _ => 0) (fun _ _ => none)]) (px_runV (As := [.int 3, .int (fx 0)]) (rest := []) S (c_tk_blame l D cs (re 0) rt ot ta tg tf_90 3 (fx 0)  (show CurOk (tf_90 10) (tf_90 13) (tf_90 14) (tf_90 15) (tf_90 17) (ta 0) from ⟨⟨by first | exact o1 | omega, by first | exact o2 | omega⟩, ⟨by first | exact o3 | omega, by first | exact o4 | omega⟩, ⟨by first | exact o5 | omega, by first | exact o6 | omega⟩, by first | exact o7 | omega, by omega, last_eq hlast (rfl)⟩) (show 0 ≤ (fx 0).toInt from by first | exact g2 | omega) _) hT (pr := [wd_Exp cs he re eo ef ea eg, wd_Prg cs (re 2) rp (fun k => if k = 2 then of else none) fp_90 (fun _ _ => 0) (fun _ _ => none), [((rp 1), .inl (cs 0, cn, .inl cd_90))], P, wd_Opd cs hx (fun _ => 0) (fun k => if k = 4 then ox else none) fx (fun _ _ => 0) (fun _ _ => none)]) (pcs := [wd_Tok cs (re 0) rt ot tf_90 ta tg]) hw px_X.tt (px_recv hT hw 5 0 rfl rfl rfl) m4_173 m4_170 m4_171 m4_172 m1_2 q_Tok_blame ⟨Nat.le_of_ble_eq_true rfl, Nat.le_of_ble_eq_true rfl⟩ hl.1 rfl (Nat.le_of_ble_eq_true rfl) d_Exp_hand_113 ⟨Nat.le_of_ble_eq_true rfl, Nat.le_of_ble_eq_true rfl⟩) hw hA (fun p4 H locs hp4 hw => ?_)
        obtain ⟨tf3, rfl, h10, e6, e7, e8, e9⟩ := hp4
        obtain ⟨⟨o1, o2⟩, ⟨o3, o4⟩, ⟨o5, o6⟩, o7, o8, hlast⟩ := h10
        replace e6 : (tf3 10).toInt = (tf_90 10).toInt := e6
        replace e7 : (tf3 14).toInt = (tf_90 14).toInt := e7
        replace e8 : (tf3 15).toInt = (tf_90 15).toInt := e8
        replace e9 : (tf3 13).toInt = (tf_90 13).toInt := e9
        replace hw : pw D A s.heap H locs [wd_Exp cs he re eo ef ea eg, wd_Prg cs (re 2) rp (fun k => if k = 2 then of else none) fp_90 (fun _ _ => 0) (fun _ _ => none), [((rp 1), .inl (cs 0, cn, .inl cd_90))], P, wd_Opd cs hx (fun _ => 0) (fun k => if k = 4 then ox else none) fx (fun _ _ => 0) (fun _ _ => none), wd_Tok cs (re 0) rt ot tf3 ta tg] := hw
        have hw : pw D A s.heap _ _ [wd_Exp cs he re eo ef ea eg, wd_Tok cs (re 0) rt ot tf3 ta tg, wd_Prg cs (re 2) rp (fun k => if k = 2 then of else none) fp_90 (fun _ _ => 0) (fun _ _ => none), [((rp 1), .inl (cs 0, cn, .inl cd_90))], P, wd_Opd cs hx (fun _ => 0) (fun k => if k = 4 then ox else none) fx (fun _ _ => 0) (fun _ _ => none)] := hw.sub [0, 5, 1, 2, 3, 4] rfl rfl
        exact J116 tf3 fp_90 cd_90 _ _ ls (show CurOk (tf3 10) (tf3 13) (tf3 14) (tf3 15) (tf3 17) (ta 0) from ⟨⟨by first | exact o1 | omega, by first | exact o2 | omega⟩, ⟨by first | exact o3 | omega, by first | exact o4 | omega⟩, ⟨by first | exact o5 | omega, by first | exact o6 | omega⟩, by first | exact o7 | omega, by omega, last_eq hlast (rfl)⟩) (show (tf3 10).toInt = (tf 10).toInt from by first | exact oz_1687f4cc65 k90_0 e6 | omega) (show (tf3 13).toInt = (tf 13).toInt from by first | exact oz_1687f4cc65 k90_1 e9 | omega) (show (tf3 14).toInt = (tf 14).toInt from by first | exact oz_1687f4cc65 k90_2 e7 | omega) (show (tf3 15).toInt = (tf 15).toInt from by first | exact oz_1687f4cc65 k90_3 e8 | omega) (show Prel cn (fp 3) cd (fp_90 3) cd_90 from hrel) (show (fp_90 3).toInt ≤ (fp 3).toInt + 4 from by first | exact k90_5 | omega) hw (lv_sub hl [0, 1, 2] rfl)
  refine lv_aload_n S.x S.b d_Exp_hand_0 rfl (lv_at hl 1 rfl) ?_
  refine px_get S k_Opd hT hw 5 0 1 (v := .int (fx 1)) rfl rfl rfl (by decide) m4_221 d_Exp_hand_1 ?_
  refine lv_iconst (v := 2) S.x S.b d_Exp_hand_4 (by decide) ?_
  refine lv_icmp_ne (tgt := 15) S.x S.b d_Exp_hand_5 (by decide) (fun c11 => ?_) (fun c11 => ?_)
  · have nc11 : ¬ (fx 1).toInt = (2 : Int) := mt (i_eq (x := (fx 1)) (y := 2)).mpr c11
    refine lv_null S.x S.b d_Exp_hand_15 ?_
    refine lq_astore_n (x := none) (lv' := [(3, .null), (0, .ref he), (1, .ref hx), (2, .int p0)]) S.x S.b d_Exp_hand_16 rfl hl (by decide) rfl (fun ls hl => ?_)
    refine lv_iload_n S.x S.b d_Exp_hand_17 rfl (lv_at hl 3 rfl) ?_
    refine lv_iconst (v := 2) S.x S.b d_Exp_hand_18 (by decide) ?_
    refine lv_icmp_ne (tgt := 38) S.x S.b d_Exp_hand_19 (by decide) (fun c12 => ?_) (fun c12 => ?_)
    · have nc12 : ¬ p0.toInt = (2 : Int) := mt (i_eq (x := p0) (y := 2)).mpr c12
      refine lv_iload_n S.x S.b d_Exp_hand_38 rfl (lv_at hl 3 rfl) ?_
      refine lv_bipush (v := 16) S.x S.b d_Exp_hand_39 (by decide) ?_
      refine lv_icmp_lt (tgt := 90) S.x S.b d_Exp_hand_41 (by decide) (fun c13 => ?_) (fun c13 => ?_)
      · have nc13 : p0.toInt < (16 : Int) := (i_lt (x := p0) (y := 16)).mp c13
        exact J90 tf fp cd _ _ ls (show CurOk (tf 10) (tf 13) (tf 14) (tf 15) (tf 17) (ta 0) from ⟨⟨by first | exact o1 | omega, by first | exact o2 | omega⟩, ⟨by first | exact o3 | omega, by first | exact o4 | omega⟩, ⟨by first | exact o5 | omega, by first | exact o6 | omega⟩, by first | exact o7 | omega, by omega, last_eq hlast (rfl)⟩) (show (tf 10).toInt = (tf 10).toInt from rfl) (show (tf 13).toInt = (tf 13).toInt from rfl) (show (tf 14).toInt = (tf 14).toInt from rfl) (show (tf 15).toInt = (tf 15).toInt from rfl) (show Prel cn (fp 3) cd (fp 3) cd from hrel) (show (fp 3).toInt ≤ (fp 3).toInt + 4 from by first | exact oz_4550f3b49c | omega) hw (lv_sub hl [1, 2, 3] rfl)
      · have nc13 : ¬ p0.toInt < (16 : Int) := mt (i_lt (x := p0) (y := 16)).mpr c13
        refine lq_aload_n (x := none) S.x S.b d_Exp_hand_44 rfl (lv_at hl 0 rfl) ?_
        refine lv_ifnullN (tgt := 90) S.x S.b d_Exp_hand_45 (by decide) ?_
        exact J90 tf fp cd _ _ ls (show CurOk (tf 10) (tf 13) (tf 14) (tf 15) (tf 17) (ta 0) from ⟨⟨by first | exact o1 | omega, by first | exact o2 | omega⟩, ⟨by first | exact o3 | omega, by first | exact o4 | omega⟩, ⟨by first | exact o5 | omega, by first | exact o6 | omega⟩, by first | exact o7 | omega, by omega, last_eq hlast (rfl)⟩) (show (tf 10).toInt = (tf 10).toInt from rfl) (show (tf 13).toInt = (tf 13).toInt from rfl) (show (tf 14).toInt = (tf 14).toInt from rfl) (show (tf 15).toInt = (tf 15).toInt from rfl) (show Prel cn (fp 3) cd (fp 3) cd from hrel) (show (fp 3).toInt ≤ (fp 3).toInt + 4 from by first | exact oz_4550f3b49c | omega) hw (lv_sub hl [1, 2, 3] rfl)
    · have nc12 : p0.toInt = (2 : Int) := (i_eq (x := p0) (y := 2)).mp c12
      refine lv_aload_n S.x S.b d_Exp_hand_22 rfl (lv_at hl 1 rfl) ?_
      refine px_get S k_Exp hT hw 0 0 2 (v := .ref (re 2)) rfl rfl rfl (by decide) m2_133 d_Exp_hand_23 ?_
      refine lv_bipush (v := 10) S.x S.b d_Exp_hand_26 (by decide) ?_
      refine lv_iconst (v := 0) S.x S.b d_Exp_hand_28 (by decide) ?_
      refine lv_iconst (v := 0) S.x S.b d_Exp_hand_29 (by decide) ?_
      refine lv_iconst (v := 0) S.x S.b d_Exp_hand_30 (by decide) ?_
      have hw : pw D A s.heap _ _ [wd_Exp cs he re eo ef ea eg, wd_Tok cs (re 0) rt ot tf ta tg, P, wd_Opd cs hx (fun _ => 0) (fun k => if k = 4 then ox else none) fx (fun _ _ => 0) (fun _ _ => none), wd_Prg cs (re 2) rp (fun k => if k = 2 then of else none) fp (fun _ _ => 0) (fun _ _ => none), [((rp 1), .inl (cs 0, cn, .inl cd))]] := hw.sub [0, 1, 4, 5, 2, 3] rfl rfl
      refine px_calli (pr := [wd_Exp cs he re eo ef ea eg, wd_Tok cs (re 0) rt ot tf ta tg, P, wd_Opd cs hx (fun _ => 0) (fun k => if k = 4 then ox else none) fx (fun _ _ => 0) (fun _ _ => none)]) (px_runV (As := [.int 10, .int 0, .int 0, .int 0]) (rest := []) S (c_pe_emit l D cs (re 2) rp of cn fp cd 10 0 0 0  (show cn % 4 = 0 from by first | exact g0 | omega) (show cn ≤ 100000 from by first | exact g1 | omega) hrel.1 (jop_low (by decide)) _) hT (pr := [wd_Exp cs he re eo ef ea eg, wd_Tok cs (re 0) rt ot tf ta tg, P, wd_Opd cs hx (fun _ => 0) (fun k => if k = 4 then ox else none) fx (fun _ _ => 0) (fun _ _ => none)]) (pcs := [wd_Prg cs (re 2) rp (fun k => if k = 2 then of else none) fp (fun _ _ => 0) (fun _ _ => none), [((rp 1), .inl (cs 0, cn, .inl cd))]]) hw px_X.tt (px_recv hT hw 4 0 rfl rfl rfl) m4_181 m4_178 m4_179 m4_180 m1_16 q_Prg_emit ⟨Nat.le_of_ble_eq_true rfl, Nat.le_of_ble_eq_true rfl⟩ hl.1 rfl (Nat.le_of_ble_eq_true rfl) d_Exp_hand_31 ⟨Nat.le_of_ble_eq_true rfl, Nat.le_of_ble_eq_true rfl⟩) hw hA (fun v19 p18 H locs hp18 hw => ?_)
      obtain ⟨fp16, cd17, rfl, hv_v19, hem, hwx, hsz, k0fp16, k4fp16, k5fp16⟩ := hp18
      have tv_v19 : v19.toInt = (fp 3).toInt := by rw [hv_v19]
      have hrel := hrel.tr hem
      have pz20 := hrel.nm
      have hsl_fp16 : (fp16 3).toInt ≤ (fp 3).toInt + 4 := by omega
      clear hsz
      replace hw : pw D A s.heap H locs [wd_Exp cs he re eo ef ea eg, wd_Tok cs (re 0) rt ot tf ta tg, P, wd_Opd cs hx (fun _ => 0) (fun k => if k = 4 then ox else none) fx (fun _ _ => 0) (fun _ _ => none), wd_Prg cs (re 2) rp (fun k => if k = 2 then of else none) fp16 (fun _ _ => 0) (fun _ _ => none), [((rp 1), .inl (cs 0, cn, .inl cd17))]] := hw
      have lv19 := Int32.le_toInt v19
      have uv19 := Int32.toInt_lt v19
      refine lv_pop S.x S.b d_Exp_hand_34 rfl ?_
      refine lv_goto (tgt := 116) S.x S.b d_Exp_hand_35 (by decide) ?_
      have hw : pw D A s.heap _ _ [wd_Exp cs he re eo ef ea eg, wd_Tok cs (re 0) rt ot tf ta tg, wd_Prg cs (re 2) rp (fun k => if k = 2 then of else none) fp16 (fun _ _ => 0) (fun _ _ => none), [((rp 1), .inl (cs 0, cn, .inl cd17))], P, wd_Opd cs hx (fun _ => 0) (fun k => if k = 4 then ox else none) fx (fun _ _ => 0) (fun _ _ => none)] := hw.sub [0, 1, 4, 5, 2, 3] rfl rfl
      exact J116 tf fp16 cd17 _ _ ls (show CurOk (tf 10) (tf 13) (tf 14) (tf 15) (tf 17) (ta 0) from ⟨⟨by first | exact o1 | omega, by first | exact o2 | omega⟩, ⟨by first | exact o3 | omega, by first | exact o4 | omega⟩, ⟨by first | exact o5 | omega, by first | exact o6 | omega⟩, by first | exact o7 | omega, by omega, last_eq hlast (rfl)⟩) (show (tf 10).toInt = (tf 10).toInt from rfl) (show (tf 13).toInt = (tf 13).toInt from rfl) (show (tf 14).toInt = (tf 14).toInt from rfl) (show (tf 15).toInt = (tf 15).toInt from rfl) (show Prel cn (fp 3) cd (fp16 3) cd17 from hrel) (show (fp16 3).toInt ≤ (fp 3).toInt + 4 from by first | exact hsl_fp16 | omega) hw (lv_sub hl [1, 2, 3] rfl)
  · have nc11 : (fx 1).toInt = (2 : Int) := (i_eq (x := (fx 1)) (y := 2)).mp c11
    refine lv_aload_n S.x S.b d_Exp_hand_8 rfl (lv_at hl 1 rfl) ?_
    refine px_get S k_Opd hT hw 5 0 4 (v := va_rf ox) rfl rfl rfl (by decide) m4_226 d_Exp_hand_9 ?_
    refine lv_goto (tgt := 16) S.x S.b d_Exp_hand_12 (by decide) ?_
    refine lq_astore_n (x := ox) (lv' := [(3, va_rf ox), (0, .ref he), (1, .ref hx), (2, .int p0)]) S.x S.b d_Exp_hand_16 rfl hl (by decide) rfl (fun ls hl => ?_)
    refine lv_iload_n S.x S.b d_Exp_hand_17 rfl (lv_at hl 3 rfl) ?_
    refine lv_iconst (v := 2) S.x S.b d_Exp_hand_18 (by decide) ?_
    refine lv_icmp_ne (tgt := 38) S.x S.b d_Exp_hand_19 (by decide) (fun c21 => ?_) (fun c21 => ?_)
    · have nc21 : ¬ p0.toInt = (2 : Int) := mt (i_eq (x := p0) (y := 2)).mpr c21
      refine lv_iload_n S.x S.b d_Exp_hand_38 rfl (lv_at hl 3 rfl) ?_
      refine lv_bipush (v := 16) S.x S.b d_Exp_hand_39 (by decide) ?_
      refine lv_icmp_lt (tgt := 90) S.x S.b d_Exp_hand_41 (by decide) (fun c22 => ?_) (fun c22 => ?_)
      · have nc22 : p0.toInt < (16 : Int) := (i_lt (x := p0) (y := 16)).mp c22
        exact J90 tf fp cd _ _ ls (show CurOk (tf 10) (tf 13) (tf 14) (tf 15) (tf 17) (ta 0) from ⟨⟨by first | exact o1 | omega, by first | exact o2 | omega⟩, ⟨by first | exact o3 | omega, by first | exact o4 | omega⟩, ⟨by first | exact o5 | omega, by first | exact o6 | omega⟩, by first | exact o7 | omega, by omega, last_eq hlast (rfl)⟩) (show (tf 10).toInt = (tf 10).toInt from rfl) (show (tf 13).toInt = (tf 13).toInt from rfl) (show (tf 14).toInt = (tf 14).toInt from rfl) (show (tf 15).toInt = (tf 15).toInt from rfl) (show Prel cn (fp 3) cd (fp 3) cd from hrel) (show (fp 3).toInt ≤ (fp 3).toInt + 4 from by first | exact oz_4550f3b49c | omega) hw (lv_sub hl [1, 2, 3] rfl)
      · have nc22 : ¬ p0.toInt < (16 : Int) := mt (i_lt (x := p0) (y := 16)).mpr c22
        refine lq_aload_n (x := ox) S.x S.b d_Exp_hand_44 rfl (lv_at hl 0 rfl) ?_
        refine lq_ifnull (x := ox) (tgt := 90) S.x S.b d_Exp_hand_45 (by decide) (fun c23 => ?_) (fun q24 c23 => ?_)
        ·
          subst c23
          exact J90 tf fp cd _ _ ls (show CurOk (tf 10) (tf 13) (tf 14) (tf 15) (tf 17) (ta 0) from ⟨⟨by first | exact o1 | omega, by first | exact o2 | omega⟩, ⟨by first | exact o3 | omega, by first | exact o4 | omega⟩, ⟨by first | exact o5 | omega, by first | exact o6 | omega⟩, by first | exact o7 | omega, by omega, last_eq hlast (rfl)⟩) (show (tf 10).toInt = (tf 10).toInt from rfl) (show (tf 13).toInt = (tf 13).toInt from rfl) (show (tf 14).toInt = (tf 14).toInt from rfl) (show (tf 15).toInt = (tf 15).toInt from rfl) (show Prel cn (fp 3) cd (fp 3) cd from hrel) (show (fp 3).toInt ≤ (fp 3).toInt + 4 from by first | exact oz_4550f3b49c | omega) hw (lv_sub hl [1, 2, 3] rfl)
        ·
          subst c23
          refine lv_iload_n S.x S.b d_Exp_hand_48 rfl (lv_at hl 3 rfl) ?_
          refine lv_bipush (v := 16) S.x S.b d_Exp_hand_49 (by decide) ?_
          refine lv_icmp_eq (tgt := 65) S.x S.b d_Exp_hand_51 (by decide) (fun c25 => ?_) (fun c25 => ?_)
          · have nc25 : p0.toInt = (16 : Int) := (i_eq (x := p0) (y := 16)).mp c25
            refine lv_aload_n S.x S.b d_Exp_hand_65 rfl (lv_at hl 1 rfl) ?_
            refine px_get S k_Exp hT hw 0 0 2 (v := .ref (re 2)) rfl rfl rfl (by decide) m2_133 d_Exp_hand_66 ?_
            refine lv_bipush (v := 11) S.x S.b d_Exp_hand_69 (by decide) ?_
            refine lv_aload_n S.x S.b d_Exp_hand_71 rfl (lv_at hl 0 rfl) ?_
            obtain ⟨j26, s27, hj28⟩ := (show Sy P (some q24) by first | assumption | exact Fy.sy (by assumption)).at
            refine px_get S k_Sym hT hw 4 j26 2 (v := .int (s27 2)) rfl hj28 rfl (by decide) m1_213 d_Exp_hand_72 ?_
            refine lv_aload_n S.x S.b d_Exp_hand_75 rfl (lv_at hl 0 rfl) ?_
            refine px_get S k_Sym hT hw 4 j26 3 (v := .int (s27 3)) rfl hj28 rfl (by decide) m1_216 d_Exp_hand_76 ?_
            refine lv_aload_n S.x S.b d_Exp_hand_79 rfl (lv_at hl 0 rfl) ?_
            refine px_get S k_Sym hT hw 4 j26 4 (v := .int (s27 4)) rfl hj28 rfl (by decide) m1_219 d_Exp_hand_80 ?_
            have hw : pw D A s.heap _ _ [wd_Exp cs he re eo ef ea eg, wd_Tok cs (re 0) rt ot tf ta tg, P, wd_Opd cs hx (fun _ => 0) (fun k => if k = 4 then (some q24) else none) fx (fun _ _ => 0) (fun _ _ => none), wd_Prg cs (re 2) rp (fun k => if k = 2 then of else none) fp (fun _ _ => 0) (fun _ _ => none), [((rp 1), .inl (cs 0, cn, .inl cd))]] := hw.sub [0, 1, 4, 5, 2, 3] rfl rfl
            refine px_calli (pr := [wd_Exp cs he re eo ef ea eg, wd_Tok cs (re 0) rt ot tf ta tg, P, wd_Opd cs hx (fun _ => 0) (fun k => if k = 4 then (some q24) else none) fx (fun _ _ => 0) (fun _ _ => none)]) (px_runV (As := [.int 11, .int (s27 2), .int (s27 3), .int (s27 4)]) (rest := []) S (c_pe_emit l D cs (re 2) rp of cn fp cd 11 (s27 2) (s27 3) (s27 4)  (show cn % 4 = 0 from by first | exact g0 | omega) (show cn ≤ 100000 from by first | exact g1 | omega) hrel.1 (jop_low (by decide)) _) hT (pr := [wd_Exp cs he re eo ef ea eg, wd_Tok cs (re 0) rt ot tf ta tg, P, wd_Opd cs hx (fun _ => 0) (fun k => if k = 4 then (some q24) else none) fx (fun _ _ => 0) (fun _ _ => none)]) (pcs := [wd_Prg cs (re 2) rp (fun k => if k = 2 then of else none) fp (fun _ _ => 0) (fun _ _ => none), [((rp 1), .inl (cs 0, cn, .inl cd))]]) hw px_X.tt (px_recv hT hw 4 0 rfl rfl rfl) m4_181 m4_178 m4_179 m4_180 m1_16 q_Prg_emit ⟨Nat.le_of_ble_eq_true rfl, Nat.le_of_ble_eq_true rfl⟩ hl.1 rfl (Nat.le_of_ble_eq_true rfl) d_Exp_hand_83 ⟨Nat.le_of_ble_eq_true rfl, Nat.le_of_ble_eq_true rfl⟩) hw hA (fun v34 p33 H locs hp33 hw => ?_)
            obtain ⟨fp31, cd32, rfl, hv_v34, hem, hwx, hsz, k0fp31, k4fp31, k5fp31⟩ := hp33
            have tv_v34 : v34.toInt = (fp 3).toInt := by rw [hv_v34]
            have hrel := hrel.tr hem
            have pz35 := hrel.nm
            have hsl_fp31 : (fp31 3).toInt ≤ (fp 3).toInt + 4 := by omega
            clear hsz
            replace hw : pw D A s.heap H locs [wd_Exp cs he re eo ef ea eg, wd_Tok cs (re 0) rt ot tf ta tg, P, wd_Opd cs hx (fun _ => 0) (fun k => if k = 4 then (some q24) else none) fx (fun _ _ => 0) (fun _ _ => none), wd_Prg cs (re 2) rp (fun k => if k = 2 then of else none) fp31 (fun _ _ => 0) (fun _ _ => none), [((rp 1), .inl (cs 0, cn, .inl cd32))]] := hw
            have lv34 := Int32.le_toInt v34
            have uv34 := Int32.toInt_lt v34
            refine lv_pop S.x S.b d_Exp_hand_86 rfl ?_
            refine lv_goto (tgt := 116) S.x S.b d_Exp_hand_87 (by decide) ?_
            have hw : pw D A s.heap _ _ [wd_Exp cs he re eo ef ea eg, wd_Tok cs (re 0) rt ot tf ta tg, wd_Prg cs (re 2) rp (fun k => if k = 2 then of else none) fp31 (fun _ _ => 0) (fun _ _ => none), [((rp 1), .inl (cs 0, cn, .inl cd32))], P, wd_Opd cs hx (fun _ => 0) (fun k => if k = 4 then (some q24) else none) fx (fun _ _ => 0) (fun _ _ => none)] := hw.sub [0, 1, 4, 5, 2, 3] rfl rfl
            exact J116 tf fp31 cd32 _ _ ls (show CurOk (tf 10) (tf 13) (tf 14) (tf 15) (tf 17) (ta 0) from ⟨⟨by first | exact o1 | omega, by first | exact o2 | omega⟩, ⟨by first | exact o3 | omega, by first | exact o4 | omega⟩, ⟨by first | exact o5 | omega, by first | exact o6 | omega⟩, by first | exact o7 | omega, by omega, last_eq hlast (rfl)⟩) (show (tf 10).toInt = (tf 10).toInt from rfl) (show (tf 13).toInt = (tf 13).toInt from rfl) (show (tf 14).toInt = (tf 14).toInt from rfl) (show (tf 15).toInt = (tf 15).toInt from rfl) (show Prel cn (fp 3) cd (fp31 3) cd32 from hrel) (show (fp31 3).toInt ≤ (fp 3).toInt + 4 from by first | exact hsl_fp31 | omega) hw (lv_sub hl [1, 2, 3] rfl)
          · have nc25 : ¬ p0.toInt = (16 : Int) := mt (i_eq (x := p0) (y := 16)).mpr c25
            refine lv_iload_n S.x S.b d_Exp_hand_54 rfl (lv_at hl 3 rfl) ?_
            refine lv_bipush (v := 16) S.x S.b d_Exp_hand_55 (by decide) ?_
            refine lv_aload_n S.x S.b d_Exp_hand_57 rfl (lv_at hl 0 rfl) ?_
            have hw : pw D A s.heap _ _ [wd_Exp cs he re eo ef ea eg, wd_Tok cs (re 0) rt ot tf ta tg, wd_Prg cs (re 2) rp (fun k => if k = 2 then of else none) fp (fun _ _ => 0) (fun _ _ => none), [((rp 1), .inl (cs 0, cn, .inl cd))], wd_Opd cs hx (fun _ => 0) (fun k => if k = 4 then (some q24) else none) fx (fun _ _ => 0) (fun _ _ => none), P] := hw.sub [0, 1, 2, 3, 5, 4] rfl rfl
            refine px_calli (pr := [wd_Exp cs he re eo ef ea eg, wd_Tok cs (re 0) rt ot tf ta tg, wd_Prg cs (re 2) rp (fun k => if k = 2 then of else none) fp (fun _ _ => 0) (fun _ _ => none), [((rp 1), .inl (cs 0, cn, .inl cd))], wd_Opd cs hx (fun _ => 0) (fun k => if k = 4 then (some q24) else none) fx (fun _ _ => 0) (fun _ _ => none)]) (px_runS (As := [.ref q24]) (rest := [.int 16, .int p0]) S (c_ex_typeOf l D cs P  q24 (by first | assumption | exact sy_none | exact fy_none | exact Fy.sy (by assumption) | exact sy_some (by assumption)) _) hT (pr := [wd_Exp cs he re eo ef ea eg, wd_Tok cs (re 0) rt ot tf ta tg, wd_Prg cs (re 2) rp (fun k => if k = 2 then of else none) fp (fun _ _ => 0) (fun _ _ => none), [((rp 1), .inl (cs 0, cn, .inl cd))], wd_Opd cs hx (fun _ => 0) (fun k => if k = 4 then (some q24) else none) fx (fun _ _ => 0) (fun _ _ => none)]) (pcs := [P]) hw px_X.tt m5_42 m5_40 m5_41 m1_17 q_Exp_typeOf ⟨Nat.le_of_ble_eq_true rfl, Nat.le_of_ble_eq_true rfl⟩ hl.1 rfl (Nat.le_of_ble_eq_true rfl) d_Exp_hand_58 ⟨Nat.le_of_ble_eq_true rfl, Nat.le_of_ble_eq_true rfl⟩) hw hA (fun v37 p36 H locs hp36 hw => ?_)
            subst hp36
            replace hw : pw D A s.heap H locs [wd_Exp cs he re eo ef ea eg, wd_Tok cs (re 0) rt ot tf ta tg, wd_Prg cs (re 2) rp (fun k => if k = 2 then of else none) fp (fun _ _ => 0) (fun _ _ => none), [((rp 1), .inl (cs 0, cn, .inl cd))], wd_Opd cs hx (fun _ => 0) (fun k => if k = 4 then (some q24) else none) fx (fun _ _ => 0) (fun _ _ => none), P] := hw
            have lv37 := Int32.le_toInt v37
            have uv37 := Int32.toInt_lt v37
            refine lv_iadd S.x S.b d_Exp_hand_61 ?_
            refine lv_topi (fun z38 ez38 => ?_)
            have tz38 : z38.toInt = ((16 : Int) + v37.toInt + 2147483648) % 4294967296 - 2147483648 := by rw [ez38]; exact i_add 16 v37
            have lz38 := Int32.le_toInt z38
            have uz38 := Int32.toInt_lt z38
            try replace tz38 : z38.toInt = (16 : Int) + v37.toInt := by omega
            refine lv_icmp_ne (tgt := 90) S.x S.b d_Exp_hand_62 (by decide) (fun c39 => ?_) (fun c39 => ?_)
            · have nc39 : ¬ p0.toInt = z38.toInt := mt (i_eq (x := p0) (y := z38)).mpr c39
              have hw : pw D A s.heap _ _ [wd_Exp cs he re eo ef ea eg, wd_Tok cs (re 0) rt ot tf ta tg, wd_Prg cs (re 2) rp (fun k => if k = 2 then of else none) fp (fun _ _ => 0) (fun _ _ => none), [((rp 1), .inl (cs 0, cn, .inl cd))], P, wd_Opd cs hx (fun _ => 0) (fun k => if k = 4 then (some q24) else none) fx (fun _ _ => 0) (fun _ _ => none)] := hw.sub [0, 1, 2, 3, 5, 4] rfl rfl
              exact J90 tf fp cd _ _ ls (show CurOk (tf 10) (tf 13) (tf 14) (tf 15) (tf 17) (ta 0) from ⟨⟨by first | exact o1 | omega, by first | exact o2 | omega⟩, ⟨by first | exact o3 | omega, by first | exact o4 | omega⟩, ⟨by first | exact o5 | omega, by first | exact o6 | omega⟩, by first | exact o7 | omega, by omega, last_eq hlast (rfl)⟩) (show (tf 10).toInt = (tf 10).toInt from rfl) (show (tf 13).toInt = (tf 13).toInt from rfl) (show (tf 14).toInt = (tf 14).toInt from rfl) (show (tf 15).toInt = (tf 15).toInt from rfl) (show Prel cn (fp 3) cd (fp 3) cd from hrel) (show (fp 3).toInt ≤ (fp 3).toInt + 4 from by first | exact oz_4550f3b49c | omega) hw (lv_sub hl [1, 2, 3] rfl)
            · have nc39 : p0.toInt = z38.toInt := (i_eq (x := p0) (y := z38)).mp c39
              refine lv_aload_n S.x S.b d_Exp_hand_65 rfl (lv_at hl 1 rfl) ?_
              refine px_get S k_Exp hT hw 0 0 2 (v := .ref (re 2)) rfl rfl rfl (by decide) m2_133 d_Exp_hand_66 ?_
              refine lv_bipush (v := 11) S.x S.b d_Exp_hand_69 (by decide) ?_
              refine lv_aload_n S.x S.b d_Exp_hand_71 rfl (lv_at hl 0 rfl) ?_
              obtain ⟨j40, s41, hj42⟩ := (show Sy P (some q24) by first | assumption | exact Fy.sy (by assumption)).at
              refine px_get S k_Sym hT hw 5 j40 2 (v := .int (s41 2)) rfl hj42 rfl (by decide) m1_213 d_Exp_hand_72 ?_
              refine lv_aload_n S.x S.b d_Exp_hand_75 rfl (lv_at hl 0 rfl) ?_
              refine px_get S k_Sym hT hw 5 j40 3 (v := .int (s41 3)) rfl hj42 rfl (by decide) m1_216 d_Exp_hand_76 ?_
              refine lv_aload_n S.x S.b d_Exp_hand_79 rfl (lv_at hl 0 rfl) ?_
              refine px_get S k_Sym hT hw 5 j40 4 (v := .int (s41 4)) rfl hj42 rfl (by decide) m1_219 d_Exp_hand_80 ?_
              have hw : pw D A s.heap _ _ [wd_Exp cs he re eo ef ea eg, wd_Tok cs (re 0) rt ot tf ta tg, wd_Opd cs hx (fun _ => 0) (fun k => if k = 4 then (some q24) else none) fx (fun _ _ => 0) (fun _ _ => none), P, wd_Prg cs (re 2) rp (fun k => if k = 2 then of else none) fp (fun _ _ => 0) (fun _ _ => none), [((rp 1), .inl (cs 0, cn, .inl cd))]] := hw.sub [0, 1, 4, 5, 2, 3] rfl rfl
              refine px_calli (pr := [wd_Exp cs he re eo ef ea eg, wd_Tok cs (re 0) rt ot tf ta tg, wd_Opd cs hx (fun _ => 0) (fun k => if k = 4 then (some q24) else none) fx (fun _ _ => 0) (fun _ _ => none), P]) (px_runV (As := [.int 11, .int (s41 2), .int (s41 3), .int (s41 4)]) (rest := []) S (c_pe_emit l D cs (re 2) rp of cn fp cd 11 (s41 2) (s41 3) (s41 4)  (show cn % 4 = 0 from by first | exact g0 | omega) (show cn ≤ 100000 from by first | exact g1 | omega) hrel.1 (jop_low (by decide)) _) hT (pr := [wd_Exp cs he re eo ef ea eg, wd_Tok cs (re 0) rt ot tf ta tg, wd_Opd cs hx (fun _ => 0) (fun k => if k = 4 then (some q24) else none) fx (fun _ _ => 0) (fun _ _ => none), P]) (pcs := [wd_Prg cs (re 2) rp (fun k => if k = 2 then of else none) fp (fun _ _ => 0) (fun _ _ => none), [((rp 1), .inl (cs 0, cn, .inl cd))]]) hw px_X.tt (px_recv hT hw 4 0 rfl rfl rfl) m4_181 m4_178 m4_179 m4_180 m1_16 q_Prg_emit ⟨Nat.le_of_ble_eq_true rfl, Nat.le_of_ble_eq_true rfl⟩ hl.1 rfl (Nat.le_of_ble_eq_true rfl) d_Exp_hand_83 ⟨Nat.le_of_ble_eq_true rfl, Nat.le_of_ble_eq_true rfl⟩) hw hA (fun v48 p47 H locs hp47 hw => ?_)
              obtain ⟨fp45, cd46, rfl, hv_v48, hem, hwx, hsz, k0fp45, k4fp45, k5fp45⟩ := hp47
              have tv_v48 : v48.toInt = (fp 3).toInt := by rw [hv_v48]
              have hrel := hrel.tr hem
              have pz49 := hrel.nm
              have hsl_fp45 : (fp45 3).toInt ≤ (fp 3).toInt + 4 := by omega
              clear hsz
              replace hw : pw D A s.heap H locs [wd_Exp cs he re eo ef ea eg, wd_Tok cs (re 0) rt ot tf ta tg, wd_Opd cs hx (fun _ => 0) (fun k => if k = 4 then (some q24) else none) fx (fun _ _ => 0) (fun _ _ => none), P, wd_Prg cs (re 2) rp (fun k => if k = 2 then of else none) fp45 (fun _ _ => 0) (fun _ _ => none), [((rp 1), .inl (cs 0, cn, .inl cd46))]] := hw
              have lv48 := Int32.le_toInt v48
              have uv48 := Int32.toInt_lt v48
              refine lv_pop S.x S.b d_Exp_hand_86 rfl ?_
              refine lv_goto (tgt := 116) S.x S.b d_Exp_hand_87 (by decide) ?_
              have hw : pw D A s.heap _ _ [wd_Exp cs he re eo ef ea eg, wd_Tok cs (re 0) rt ot tf ta tg, wd_Prg cs (re 2) rp (fun k => if k = 2 then of else none) fp45 (fun _ _ => 0) (fun _ _ => none), [((rp 1), .inl (cs 0, cn, .inl cd46))], P, wd_Opd cs hx (fun _ => 0) (fun k => if k = 4 then (some q24) else none) fx (fun _ _ => 0) (fun _ _ => none)] := hw.sub [0, 1, 4, 5, 3, 2] rfl rfl
              exact J116 tf fp45 cd46 _ _ ls (show CurOk (tf 10) (tf 13) (tf 14) (tf 15) (tf 17) (ta 0) from ⟨⟨by first | exact o1 | omega, by first | exact o2 | omega⟩, ⟨by first | exact o3 | omega, by first | exact o4 | omega⟩, ⟨by first | exact o5 | omega, by first | exact o6 | omega⟩, by first | exact o7 | omega, by omega, last_eq hlast (rfl)⟩) (show (tf 10).toInt = (tf 10).toInt from rfl) (show (tf 13).toInt = (tf 13).toInt from rfl) (show (tf 14).toInt = (tf 14).toInt from rfl) (show (tf 15).toInt = (tf 15).toInt from rfl) (show Prel cn (fp 3) cd (fp45 3) cd46 from hrel) (show (fp45 3).toInt ≤ (fp 3).toInt + 4 from by first | exact hsl_fp45 | omega) hw (lv_sub hl [1, 2, 3] rfl)
    · have nc21 : p0.toInt = (2 : Int) := (i_eq (x := p0) (y := 2)).mp c21
      refine lv_aload_n S.x S.b d_Exp_hand_22 rfl (lv_at hl 1 rfl) ?_
      refine px_get S k_Exp hT hw 0 0 2 (v := .ref (re 2)) rfl rfl rfl (by decide) m2_133 d_Exp_hand_23 ?_
      refine lv_bipush (v := 10) S.x S.b d_Exp_hand_26 (by decide) ?_
      refine lv_iconst (v := 0) S.x S.b d_Exp_hand_28 (by decide) ?_
      refine lv_iconst (v := 0) S.x S.b d_Exp_hand_29 (by decide) ?_
      refine lv_iconst (v := 0) S.x S.b d_Exp_hand_30 (by decide) ?_
      have hw : pw D A s.heap _ _ [wd_Exp cs he re eo ef ea eg, wd_Tok cs (re 0) rt ot tf ta tg, P, wd_Opd cs hx (fun _ => 0) (fun k => if k = 4 then ox else none) fx (fun _ _ => 0) (fun _ _ => none), wd_Prg cs (re 2) rp (fun k => if k = 2 then of else none) fp (fun _ _ => 0) (fun _ _ => none), [((rp 1), .inl (cs 0, cn, .inl cd))]] := hw.sub [0, 1, 4, 5, 2, 3] rfl rfl
      refine px_calli (pr := [wd_Exp cs he re eo ef ea eg, wd_Tok cs (re 0) rt ot tf ta tg, P, wd_Opd cs hx (fun _ => 0) (fun k => if k = 4 then ox else none) fx (fun _ _ => 0) (fun _ _ => none)]) (px_runV (As := [.int 10, .int 0, .int 0, .int 0]) (rest := []) S (c_pe_emit l D cs (re 2) rp of cn fp cd 10 0 0 0  (show cn % 4 = 0 from by first | exact g0 | omega) (show cn ≤ 100000 from by first | exact g1 | omega) hrel.1 (jop_low (by decide)) _) hT (pr := [wd_Exp cs he re eo ef ea eg, wd_Tok cs (re 0) rt ot tf ta tg, P, wd_Opd cs hx (fun _ => 0) (fun k => if k = 4 then ox else none) fx (fun _ _ => 0) (fun _ _ => none)]) (pcs := [wd_Prg cs (re 2) rp (fun k => if k = 2 then of else none) fp (fun _ _ => 0) (fun _ _ => none), [((rp 1), .inl (cs 0, cn, .inl cd))]]) hw px_X.tt (px_recv hT hw 4 0 rfl rfl rfl) m4_181 m4_178 m4_179 m4_180 m1_16 q_Prg_emit ⟨Nat.le_of_ble_eq_true rfl, Nat.le_of_ble_eq_true rfl⟩ hl.1 rfl (Nat.le_of_ble_eq_true rfl) d_Exp_hand_31 ⟨Nat.le_of_ble_eq_true rfl, Nat.le_of_ble_eq_true rfl⟩) hw hA (fun v55 p54 H locs hp54 hw => ?_)
      obtain ⟨fp52, cd53, rfl, hv_v55, hem, hwx, hsz, k0fp52, k4fp52, k5fp52⟩ := hp54
      have tv_v55 : v55.toInt = (fp 3).toInt := by rw [hv_v55]
      have hrel := hrel.tr hem
      have pz56 := hrel.nm
      have hsl_fp52 : (fp52 3).toInt ≤ (fp 3).toInt + 4 := by omega
      clear hsz
      replace hw : pw D A s.heap H locs [wd_Exp cs he re eo ef ea eg, wd_Tok cs (re 0) rt ot tf ta tg, P, wd_Opd cs hx (fun _ => 0) (fun k => if k = 4 then ox else none) fx (fun _ _ => 0) (fun _ _ => none), wd_Prg cs (re 2) rp (fun k => if k = 2 then of else none) fp52 (fun _ _ => 0) (fun _ _ => none), [((rp 1), .inl (cs 0, cn, .inl cd53))]] := hw
      have lv55 := Int32.le_toInt v55
      have uv55 := Int32.toInt_lt v55
      refine lv_pop S.x S.b d_Exp_hand_34 rfl ?_
      refine lv_goto (tgt := 116) S.x S.b d_Exp_hand_35 (by decide) ?_
      have hw : pw D A s.heap _ _ [wd_Exp cs he re eo ef ea eg, wd_Tok cs (re 0) rt ot tf ta tg, wd_Prg cs (re 2) rp (fun k => if k = 2 then of else none) fp52 (fun _ _ => 0) (fun _ _ => none), [((rp 1), .inl (cs 0, cn, .inl cd53))], P, wd_Opd cs hx (fun _ => 0) (fun k => if k = 4 then ox else none) fx (fun _ _ => 0) (fun _ _ => none)] := hw.sub [0, 1, 4, 5, 2, 3] rfl rfl
      exact J116 tf fp52 cd53 _ _ ls (show CurOk (tf 10) (tf 13) (tf 14) (tf 15) (tf 17) (ta 0) from ⟨⟨by first | exact o1 | omega, by first | exact o2 | omega⟩, ⟨by first | exact o3 | omega, by first | exact o4 | omega⟩, ⟨by first | exact o5 | omega, by first | exact o6 | omega⟩, by first | exact o7 | omega, by omega, last_eq hlast (rfl)⟩) (show (tf 10).toInt = (tf 10).toInt from rfl) (show (tf 13).toInt = (tf 13).toInt from rfl) (show (tf 14).toInt = (tf 14).toInt from rfl) (show (tf 15).toInt = (tf 15).toInt from rfl) (show Prel cn (fp 3) cd (fp52 3) cd53 from hrel) (show (fp52 3).toInt ≤ (fp 3).toInt + 4 from by first | exact hsl_fp52 | omega) hw (lv_sub hl [1, 2, 3] rfl)
abbrev b_Exp_conclude : ByteArray := prog_3_method_26_code
def y_Exp_conclude : MethodName := ⟨"HomeSystem$Expressions", "conclude", "(LHomeSystem$Operand;LHomeSystem$Symbol;I)V"⟩
theorem d_Exp_conclude_0 : decode b_Exp_conclude 0 = .ok (.aload_n 1, 1) := by decide +kernel
theorem d_Exp_conclude_1 : decode b_Exp_conclude 1 = .ok (.aload_n 1, 1) := by decide +kernel
theorem d_Exp_conclude_2 : decode b_Exp_conclude 2 = .ok (.getfield 82, 3) := by decide +kernel
theorem d_Exp_conclude_5 : decode b_Exp_conclude 5 = .ok (.putfield 88, 3) := by decide +kernel
theorem d_Exp_conclude_8 : decode b_Exp_conclude 8 = .ok (.aload_n 2, 1) := by decide +kernel
theorem d_Exp_conclude_9 : decode b_Exp_conclude 9 = .ok (.ifnonnull 16, 3) := by decide +kernel
theorem d_Exp_conclude_12 : decode b_Exp_conclude 12 = .ok (.aload_n 0, 1) := by decide +kernel
theorem d_Exp_conclude_13 : decode b_Exp_conclude 13 = .ok (.getfield 9, 3) := by decide +kernel
theorem d_Exp_conclude_16 : decode b_Exp_conclude 16 = .ok (.iconst 2, 1) := by decide +kernel
theorem d_Exp_conclude_17 : decode b_Exp_conclude 17 = .ok (.aload_n 1, 1) := by decide +kernel
theorem d_Exp_conclude_18 : decode b_Exp_conclude 18 = .ok (.getfield 82, 3) := by decide +kernel
theorem d_Exp_conclude_21 : decode b_Exp_conclude 21 = .ok (.invokevirtual 85, 3) := by decide +kernel
theorem d_Exp_conclude_24 : decode b_Exp_conclude 24 = .ok (.return_, 1) := by decide +kernel
theorem d_Exp_conclude_25 : decode b_Exp_conclude 25 = .ok (.iload_n 3, 1) := by decide +kernel
theorem d_Exp_conclude_26 : decode b_Exp_conclude 26 = .ok (.aload_n 2, 1) := by decide +kernel
theorem d_Exp_conclude_27 : decode b_Exp_conclude 27 = .ok (.getfield 103, 3) := by decide +kernel
theorem d_Exp_conclude_30 : decode b_Exp_conclude 30 = .ok (.if_icmp .eq 15, 3) := by decide +kernel
theorem d_Exp_conclude_33 : decode b_Exp_conclude 33 = .ok (.aload_n 0, 1) := by decide +kernel
theorem d_Exp_conclude_34 : decode b_Exp_conclude 34 = .ok (.getfield 9, 3) := by decide +kernel
theorem d_Exp_conclude_37 : decode b_Exp_conclude 37 = .ok (.iconst 4, 1) := by decide +kernel
theorem d_Exp_conclude_38 : decode b_Exp_conclude 38 = .ok (.aload_n 1, 1) := by decide +kernel
theorem d_Exp_conclude_39 : decode b_Exp_conclude 39 = .ok (.getfield 82, 3) := by decide +kernel
theorem d_Exp_conclude_42 : decode b_Exp_conclude 42 = .ok (.invokevirtual 85, 3) := by decide +kernel
theorem d_Exp_conclude_45 : decode b_Exp_conclude 45 = .ok (.aload_n 1, 1) := by decide +kernel
theorem d_Exp_conclude_46 : decode b_Exp_conclude 46 = .ok (.aload_n 2, 1) := by decide +kernel
theorem d_Exp_conclude_47 : decode b_Exp_conclude 47 = .ok (.getfield 239, 3) := by decide +kernel
theorem d_Exp_conclude_50 : decode b_Exp_conclude 50 = .ok (.iconst 3, 1) := by decide +kernel
theorem d_Exp_conclude_51 : decode b_Exp_conclude 51 = .ok (.if_icmp .ne 7, 3) := by decide +kernel
theorem d_Exp_conclude_54 : decode b_Exp_conclude 54 = .ok (.iconst 3, 1) := by decide +kernel
theorem d_Exp_conclude_55 : decode b_Exp_conclude 55 = .ok (.goto 4, 3) := by decide +kernel
theorem d_Exp_conclude_58 : decode b_Exp_conclude 58 = .ok (.iconst 0, 1) := by decide +kernel
theorem d_Exp_conclude_59 : decode b_Exp_conclude 59 = .ok (.putfield 79, 3) := by decide +kernel
theorem d_Exp_conclude_62 : decode b_Exp_conclude 62 = .ok (.aload_n 2, 1) := by decide +kernel
theorem d_Exp_conclude_63 : decode b_Exp_conclude 63 = .ok (.getfield 216, 3) := by decide +kernel
theorem d_Exp_conclude_66 : decode b_Exp_conclude 66 = .ok (.istore 4, 2) := by decide +kernel
theorem d_Exp_conclude_68 : decode b_Exp_conclude 68 = .ok (.iload 4, 2) := by decide +kernel
theorem d_Exp_conclude_70 : decode b_Exp_conclude 70 = .ok (.ifCond .ne 19, 3) := by decide +kernel
theorem d_Exp_conclude_73 : decode b_Exp_conclude 73 = .ok (.aload_n 0, 1) := by decide +kernel
theorem d_Exp_conclude_74 : decode b_Exp_conclude 74 = .ok (.getfield 19, 3) := by decide +kernel
theorem d_Exp_conclude_77 : decode b_Exp_conclude 77 = .ok (.bipush 12, 2) := by decide +kernel
theorem d_Exp_conclude_79 : decode b_Exp_conclude 79 = .ok (.iconst 0, 1) := by decide +kernel
theorem d_Exp_conclude_80 : decode b_Exp_conclude 80 = .ok (.iconst 0, 1) := by decide +kernel
theorem d_Exp_conclude_81 : decode b_Exp_conclude 81 = .ok (.iconst 0, 1) := by decide +kernel
theorem d_Exp_conclude_82 : decode b_Exp_conclude 82 = .ok (.invokevirtual 106, 3) := by decide +kernel
theorem d_Exp_conclude_85 : decode b_Exp_conclude 85 = .ok (.pop, 1) := by decide +kernel
theorem d_Exp_conclude_86 : decode b_Exp_conclude 86 = .ok (.goto 44, 3) := by decide +kernel
theorem d_Exp_conclude_89 : decode b_Exp_conclude 89 = .ok (.iload 4, 2) := by decide +kernel
theorem d_Exp_conclude_91 : decode b_Exp_conclude 91 = .ok (.bipush 10, 2) := by decide +kernel
theorem d_Exp_conclude_93 : decode b_Exp_conclude 93 = .ok (.if_icmp .ge 20, 3) := by decide +kernel
theorem d_Exp_conclude_96 : decode b_Exp_conclude 96 = .ok (.aload_n 0, 1) := by decide +kernel
theorem d_Exp_conclude_97 : decode b_Exp_conclude 97 = .ok (.getfield 19, 3) := by decide +kernel
theorem d_Exp_conclude_100 : decode b_Exp_conclude 100 = .ok (.bipush 23, 2) := by decide +kernel
theorem d_Exp_conclude_102 : decode b_Exp_conclude 102 = .ok (.iload 4, 2) := by decide +kernel
theorem d_Exp_conclude_104 : decode b_Exp_conclude 104 = .ok (.iconst 0, 1) := by decide +kernel
theorem d_Exp_conclude_105 : decode b_Exp_conclude 105 = .ok (.iconst 0, 1) := by decide +kernel
theorem d_Exp_conclude_106 : decode b_Exp_conclude 106 = .ok (.invokevirtual 106, 3) := by decide +kernel
theorem d_Exp_conclude_109 : decode b_Exp_conclude 109 = .ok (.pop, 1) := by decide +kernel
theorem d_Exp_conclude_110 : decode b_Exp_conclude 110 = .ok (.goto 20, 3) := by decide +kernel
theorem d_Exp_conclude_113 : decode b_Exp_conclude 113 = .ok (.aload_n 0, 1) := by decide +kernel
theorem d_Exp_conclude_114 : decode b_Exp_conclude 114 = .ok (.getfield 19, 3) := by decide +kernel
theorem d_Exp_conclude_117 : decode b_Exp_conclude 117 = .ok (.bipush 22, 2) := by decide +kernel
theorem d_Exp_conclude_119 : decode b_Exp_conclude 119 = .ok (.iload 4, 2) := by decide +kernel
theorem d_Exp_conclude_121 : decode b_Exp_conclude 121 = .ok (.bipush 10, 2) := by decide +kernel
theorem d_Exp_conclude_123 : decode b_Exp_conclude 123 = .ok (.isub, 1) := by decide +kernel
theorem d_Exp_conclude_124 : decode b_Exp_conclude 124 = .ok (.iconst 0, 1) := by decide +kernel
theorem d_Exp_conclude_125 : decode b_Exp_conclude 125 = .ok (.iconst 0, 1) := by decide +kernel
theorem d_Exp_conclude_126 : decode b_Exp_conclude 126 = .ok (.invokevirtual 106, 3) := by decide +kernel
theorem d_Exp_conclude_129 : decode b_Exp_conclude 129 = .ok (.pop, 1) := by decide +kernel
theorem d_Exp_conclude_130 : decode b_Exp_conclude 130 = .ok (.return_, 1) := by decide +kernel
theorem q_Exp_conclude : px_y y_Exp_conclude 3 := by unfold px_y; decide +kernel
set_option maxHeartbeats 4000000 in
set_option maxRecDepth 100000 in
theorem c_ex_conclude_n (l : Launch) (D : va_G) (cs : Nat → ClassId) (he : Nat) (re : Nat → Nat) (eo : Nat → Option Nat) (ef : Nat → Int32) (ea : Nat → Nat → Int32) (eg : Nat → Nat → Option Nat) (rt : Nat → Nat) (ot : Nat → Option Nat) (ta : Nat → Nat → Int32) (tg : Nat → Nat → Option Nat) (tf : Nat → Int32) (rp : Nat → Nat) (of : Option Nat) (cn : Nat) (fp : Nat → Int32) (cd : Nat → Int32) (P : va_W) (hx : Nat) (ox : Option Nat) (fx : Nat → Int32) (p0 : Int32)  (hinv0 : CurOk (tf 10) (tf 13) (tf 14) (tf 15) (tf 17) (ta 0)) (g0 : cn % 4 = 0) (g1 : cn ≤ 100000) (g2 : 0 ≤ (fx 0).toInt) (hpk : Pok cn (fp 3) cd) : MetV l y_Exp_conclude b_Exp_conclude 5 D cs 1 40 (0) (0) [.ref he, .ref hx, .null, .int p0] [wd_Exp cs he re eo ef ea eg, wd_Tok cs (re 0) rt ot tf ta tg, wd_Prg cs (re 2) rp (fun k => if k = 2 then of else none) fp (fun _ _ => 0) (fun _ _ => none), [((rp 1), .inl (cs 0, cn, .inl cd))], P, wd_Opd cs hx (fun _ => 0) (fun k => if k = 4 then ox else none) fx (fun _ _ => 0) (fun _ _ => none)] (fun _ => True) (fun ps => ∃ (tf' : Nat → Int32) (fp' : Nat → Int32) (cd' : Nat → Int32) (fx' : Nat → Int32), (ps = [wd_Exp cs he re eo ef ea eg, wd_Tok cs (re 0) rt ot tf' ta tg, wd_Prg cs (re 2) rp (fun k => if k = 2 then of else none) fp' (fun _ _ => 0) (fun _ _ => none), [((rp 1), .inl (cs 0, cn, .inl cd'))], P, wd_Opd cs hx (fun _ => 0) (fun k => if k = 4 then ox else none) fx' (fun _ _ => 0) (fun _ _ => none)]) ∧ (CurOk (tf' 10) (tf' 13) (tf' 14) (tf' 15) (tf' 17) (ta 0)) ∧ ((tf' 10).toInt = (tf 10).toInt) ∧ ((tf' 13).toInt = (tf 13).toInt) ∧ ((tf' 14).toInt = (tf 14).toInt) ∧ ((tf' 15).toInt = (tf 15).toInt) ∧ ((fx' 0).toInt = (fx 0).toInt) ∧ ((fx' 5).toInt = (fx 5).toInt) ∧ ((fx' 3).toInt = (fx 0).toInt) ∧ (Prel cn (fp 3) cd (fp' 3) cd') ∧ ((fp' 3).toInt ≤ (fp 3).toInt + 4)) := by
  refine px_enter (by decide) (Nat.le_of_ble_eq_true rfl) ?_
  intro p e s m below meth c A ls hAe S hr hlk hnm hA hT hX hw hl
  replace hl : lv_has ls 5 [(0, .ref he), (1, .ref hx), (2, .null), (3, .int p0)] := hl
  have lp0 := Int32.le_toInt p0
  have up0 := Int32.toInt_lt p0
  have cst0 : (0 : Int32).toInt = 0 := rfl
  have cst2 : (2 : Int32).toInt = 2 := rfl
  have cst3 : (3 : Int32).toInt = 3 := rfl
  have cst4 : (4 : Int32).toInt = 4 := rfl
  have cst10 : (10 : Int32).toInt = 10 := rfl
  have cst12 : (12 : Int32).toInt = 12 := rfl
  have cst22 : (22 : Int32).toInt = 22 := rfl
  have cst23 : (23 : Int32).toInt = 23 := rfl
  obtain ⟨⟨o1, o2⟩, ⟨o3, o4⟩, ⟨o5, o6⟩, o7, o8, hlast⟩ := hinv0
  have hrel := Prel.rf hpk
  have pz0 := hrel.nm
  refine lv_aload_n S.x S.b d_Exp_conclude_0 rfl (lv_at hl 1 rfl) ?_
  refine lv_aload_n S.x S.b d_Exp_conclude_1 rfl (lv_at hl 1 rfl) ?_
  refine px_get S k_Opd hT hw 5 0 0 (v := .int (fx 0)) rfl rfl rfl (by decide) m4_218 d_Exp_conclude_2 ?_
  refine px_put S k_Opd hT hw 5 0 3 rfl rfl (by decide) m4_225 rfl rfl rfl (Nat.le_of_ble_eq_true rfl) d_Exp_conclude_5 (w' := wd_Opd cs hx (fun _ => 0) (fun k => if k = 4 then ox else none) (upd fx 3 (fx 0)) (fun _ _ => 0) (fun _ _ => none)) (ps' := [wd_Exp cs he re eo ef ea eg, wd_Tok cs (re 0) rt ot tf ta tg, wd_Prg cs (re 2) rp (fun k => if k = 2 then of else none) fp (fun _ _ => 0) (fun _ _ => none), [((rp 1), .inl (cs 0, cn, .inl cd))], P, wd_Opd cs hx (fun _ => 0) (fun k => if k = 4 then ox else none) (upd fx 3 (fx 0)) (fun _ _ => 0) (fun _ _ => none)]) rfl rfl (fun H locs hw => ?_)
  refine lq_aload_n (x := none) S.x S.b d_Exp_conclude_8 rfl (lv_at hl 2 rfl) ?_
  refine lv_ifnonnullN S.x S.b d_Exp_conclude_9 ?_
  refine lv_aload_n S.x S.b d_Exp_conclude_12 rfl (lv_at hl 0 rfl) ?_
  refine px_get S k_Exp hT hw 0 0 0 (v := .ref (re 0)) rfl rfl rfl (by decide) m2_131 d_Exp_conclude_13 ?_
  refine lv_iconst (v := 2) S.x S.b d_Exp_conclude_16 (by decide) ?_
  refine lv_aload_n S.x S.b d_Exp_conclude_17 rfl (lv_at hl 1 rfl) ?_
  refine px_get S k_Opd hT hw 5 0 0 (v := .int (fx 0)) rfl rfl rfl (by decide) m4_218 d_Exp_conclude_18 ?_
  have hw : pw D A s.heap _ _ [wd_Exp cs he re eo ef ea eg, wd_Prg cs (re 2) rp (fun k => if k = 2 then of else none) fp (fun _ _ => 0) (fun _ _ => none), [((rp 1), .inl (cs 0, cn, .inl cd))], P, wd_Opd cs hx (fun _ => 0) (fun k => if k = 4 then ox else none) (upd fx 3 (fx 0)) (fun _ _ => 0) (fun _ _ => none), wd_Tok cs (re 0) rt ot tf ta tg] := hw.sub [0, 2, 3, 4, 5, 1] rfl rfl
  refine px_callv (pr := [wd_Exp cs he re eo ef ea eg, wd_Prg cs (re 2) rp (fun k => if k = 2 then of else none) fp (fun _ _ => 0) (fun _ _ => none), [((rp 1), .inl (cs 0, cn, .inl cd))], P, wd_Opd cs hx (fun _ => 0) (fun k => if k = 4 then ox else none) (upd fx 3 (fx 0)) (fun _ _ => 0) (fun _ _ => none)]) (px_runV (As := [.int 2, .int (fx 0)]) (rest := []) S (c_tk_blame l D cs (re 0) rt ot ta tg tf 2 (fx 0)  (show CurOk (tf 10) (tf 13) (tf 14) (tf 15) (tf 17) (ta 0) from ⟨⟨by first | exact o1 | omega, by first | exact o2 | omega⟩, ⟨by first | exact o3 | omega, by first | exact o4 | omega⟩, ⟨by first | exact o5 | omega, by first | exact o6 | omega⟩, by first | exact o7 | omega, by omega, last_eq hlast (rfl)⟩) (show 0 ≤ (fx 0).toInt from by first | exact g2 | omega) _) hT (pr := [wd_Exp cs he re eo ef ea eg, wd_Prg cs (re 2) rp (fun k => if k = 2 then of else none) fp (fun _ _ => 0) (fun _ _ => none), [((rp 1), .inl (cs 0, cn, .inl cd))], P, wd_Opd cs hx (fun _ => 0) (fun k => if k = 4 then ox else none) (upd fx 3 (fx 0)) (fun _ _ => 0) (fun _ _ => none)]) (pcs := [wd_Tok cs (re 0) rt ot tf ta tg]) hw px_X.tt (px_recv hT hw 5 0 rfl rfl rfl) m4_173 m4_170 m4_171 m4_172 m1_2 q_Tok_blame ⟨Nat.le_of_ble_eq_true rfl, Nat.le_of_ble_eq_true rfl⟩ hl.1 rfl (Nat.le_of_ble_eq_true rfl) d_Exp_conclude_21 ⟨Nat.le_of_ble_eq_true rfl, Nat.le_of_ble_eq_true rfl⟩) hw hA (fun p2 H locs hp2 hw => ?_)
  obtain ⟨tf1, rfl, h8, e4, e5, e6, e7⟩ := hp2
  obtain ⟨⟨o1, o2⟩, ⟨o3, o4⟩, ⟨o5, o6⟩, o7, o8, hlast⟩ := h8
  replace e4 : (tf1 10).toInt = (tf 10).toInt := e4
  replace e5 : (tf1 14).toInt = (tf 14).toInt := e5
  replace e6 : (tf1 15).toInt = (tf 15).toInt := e6
  replace e7 : (tf1 13).toInt = (tf 13).toInt := e7
  replace hw : pw D A s.heap H locs [wd_Exp cs he re eo ef ea eg, wd_Prg cs (re 2) rp (fun k => if k = 2 then of else none) fp (fun _ _ => 0) (fun _ _ => none), [((rp 1), .inl (cs 0, cn, .inl cd))], P, wd_Opd cs hx (fun _ => 0) (fun k => if k = 4 then ox else none) (upd fx 3 (fx 0)) (fun _ _ => 0) (fun _ _ => none), wd_Tok cs (re 0) rt ot tf1 ta tg] := hw
  have hw : pw D A s.heap _ _ [wd_Exp cs he re eo ef ea eg, wd_Tok cs (re 0) rt ot tf1 ta tg, wd_Prg cs (re 2) rp (fun k => if k = 2 then of else none) fp (fun _ _ => 0) (fun _ _ => none), [((rp 1), .inl (cs 0, cn, .inl cd))], P, wd_Opd cs hx (fun _ => 0) (fun k => if k = 4 then ox else none) (upd fx 3 (fx 0)) (fun _ _ => 0) (fun _ _ => none)] := hw.sub [0, 5, 1, 2, 3, 4] rfl rfl
  exact px_vret S hr hlk hAe hw (Nat.le_of_ble_eq_true rfl) (Nat.le_of_ble_eq_true rfl) (⟨tf1, fp, cd, (upd fx 3 (fx 0)), rfl, (show CurOk (tf1 10) (tf1 13) (tf1 14) (tf1 15) (tf1 17) (ta 0) from ⟨⟨by first | exact o1 | omega, by first | exact o2 | omega⟩, ⟨by first | exact o3 | omega, by first | exact o4 | omega⟩, ⟨by first | exact o5 | omega, by first | exact o6 | omega⟩, by first | exact o7 | omega, by omega, last_eq hlast (rfl)⟩), (show (tf1 10).toInt = (tf 10).toInt from by first | exact e4 | omega), (show (tf1 13).toInt = (tf 13).toInt from by first | exact e7 | omega), (show (tf1 14).toInt = (tf 14).toInt from by first | exact e5 | omega), (show (tf1 15).toInt = (tf 15).toInt from by first | exact e6 | omega), (show (fx 0).toInt = (fx 0).toInt from rfl), (show (fx 5).toInt = (fx 5).toInt from rfl), (show (fx 0).toInt = (fx 0).toInt from rfl), (show Prel cn (fp 3) cd (fp 3) cd from hrel), (show (fp 3).toInt ≤ (fp 3).toInt + 4 from by first | exact oz_4550f3b49c | omega)⟩) d_Exp_conclude_24
set_option maxHeartbeats 4000000 in
set_option maxRecDepth 100000 in
theorem c_ex_conclude_r (l : Launch) (D : va_G) (cs : Nat → ClassId) (he : Nat) (re : Nat → Nat) (eo : Nat → Option Nat) (ef : Nat → Int32) (ea : Nat → Nat → Int32) (eg : Nat → Nat → Option Nat) (rt : Nat → Nat) (ot : Nat → Option Nat) (ta : Nat → Nat → Int32) (tg : Nat → Nat → Option Nat) (tf : Nat → Int32) (rp : Nat → Nat) (of : Option Nat) (cn : Nat) (fp : Nat → Int32) (cd : Nat → Int32) (P : va_W) (hx : Nat) (ox : Option Nat) (fx : Nat → Int32) (p0 : Int32) (fa : Nat) (hinv0 : CurOk (tf 10) (tf 13) (tf 14) (tf 15) (tf 17) (ta 0)) (g0 : cn % 4 = 0) (g1 : cn ≤ 100000) (g2 : 0 ≤ (fx 0).toInt) (hpk : Pok cn (fp 3) cd) (hsy : Fy P (some fa)) : MetV l y_Exp_conclude b_Exp_conclude 5 D cs 1 40 (0) (0) [.ref he, .ref hx, .ref fa, .int p0] [wd_Exp cs he re eo ef ea eg, wd_Tok cs (re 0) rt ot tf ta tg, wd_Prg cs (re 2) rp (fun k => if k = 2 then of else none) fp (fun _ _ => 0) (fun _ _ => none), [((rp 1), .inl (cs 0, cn, .inl cd))], P, wd_Opd cs hx (fun _ => 0) (fun k => if k = 4 then ox else none) fx (fun _ _ => 0) (fun _ _ => none)] (fun _ => True) (fun ps => ∃ (tf' : Nat → Int32) (fp' : Nat → Int32) (cd' : Nat → Int32) (fx' : Nat → Int32), (ps = [wd_Exp cs he re eo ef ea eg, wd_Tok cs (re 0) rt ot tf' ta tg, wd_Prg cs (re 2) rp (fun k => if k = 2 then of else none) fp' (fun _ _ => 0) (fun _ _ => none), [((rp 1), .inl (cs 0, cn, .inl cd'))], P, wd_Opd cs hx (fun _ => 0) (fun k => if k = 4 then ox else none) fx' (fun _ _ => 0) (fun _ _ => none)]) ∧ (CurOk (tf' 10) (tf' 13) (tf' 14) (tf' 15) (tf' 17) (ta 0)) ∧ ((tf' 10).toInt = (tf 10).toInt) ∧ ((tf' 13).toInt = (tf 13).toInt) ∧ ((tf' 14).toInt = (tf 14).toInt) ∧ ((tf' 15).toInt = (tf 15).toInt) ∧ ((fx' 0).toInt = (fx 0).toInt) ∧ ((fx' 5).toInt = (fx 5).toInt) ∧ ((fx' 3).toInt = (fx 0).toInt) ∧ (Prel cn (fp 3) cd (fp' 3) cd') ∧ ((fp' 3).toInt ≤ (fp 3).toInt + 4)) := by
  refine px_enter (by decide) (Nat.le_of_ble_eq_true rfl) ?_
  intro p e s m below meth c A ls hAe S hr hlk hnm hA hT hX hw hl
  replace hl : lv_has ls 5 [(0, .ref he), (1, .ref hx), (2, .ref fa), (3, .int p0)] := hl
  have lp0 := Int32.le_toInt p0
  have up0 := Int32.toInt_lt p0
  have cst0 : (0 : Int32).toInt = 0 := rfl
  have cst2 : (2 : Int32).toInt = 2 := rfl
  have cst3 : (3 : Int32).toInt = 3 := rfl
  have cst4 : (4 : Int32).toInt = 4 := rfl
  have cst10 : (10 : Int32).toInt = 10 := rfl
  have cst12 : (12 : Int32).toInt = 12 := rfl
  have cst22 : (22 : Int32).toInt = 22 := rfl
  have cst23 : (23 : Int32).toInt = 23 := rfl
  obtain ⟨⟨o1, o2⟩, ⟨o3, o4⟩, ⟨o5, o6⟩, o7, o8, hlast⟩ := hinv0
  have hrel := Prel.rf hpk
  have pz0 := hrel.nm
  obtain ⟨jf, sf, hjf, hf0, hf1⟩ := hsy.at
  have J45 : ∀ (tf_45 : Nat → Int32) (fp_45 : Nat → Int32) (cd_45 : Nat → Int32) (fx_45 : Nat → Int32) (H : Heap) (locs : List Loc) (ls : Array Slot), (CurOk (tf_45 10) (tf_45 13) (tf_45 14) (tf_45 15) (tf_45 17) (ta 0)) → ((tf_45 10).toInt = (tf 10).toInt) → ((tf_45 13).toInt = (tf 13).toInt) → ((tf_45 14).toInt = (tf 14).toInt) → ((tf_45 15).toInt = (tf 15).toInt) → ((fx_45 0).toInt = (fx 0).toInt) → ((fx_45 5).toInt = (fx 5).toInt) → ((fx_45 3).toInt = (fx 0).toInt) → (Prel cn (fp 3) cd (fp_45 3) cd_45) → ((fp_45 3).toInt = (fp 3).toInt) → pw D A s.heap H locs [wd_Exp cs he re eo ef ea eg, wd_Tok cs (re 0) rt ot tf_45 ta tg, wd_Prg cs (re 2) rp (fun k => if k = 2 then of else none) fp_45 (fun _ _ => 0) (fun _ _ => none), [((rp 1), .inl (cs 0, cn, .inl cd_45))], P, wd_Opd cs hx (fun _ => 0) (fun k => if k = 4 then ox else none) fx_45 (fun _ _ => 0) (fun _ _ => none)] → lv_has ls 5 [(0, .ref he), (1, .ref hx), (2, .ref fa), (3, .int p0)] → W p l e { frames := 1, cells := 0, slots := 0, locals := 40 } s m [.ref he, .ref hx, .ref fa, .int p0].toArray below meth c H locs 0 0 (MQ below (va_Qv (fun ps => ∃ (tf' : Nat → Int32) (fp' : Nat → Int32) (cd' : Nat → Int32) (fx' : Nat → Int32), (ps = [wd_Exp cs he re eo ef ea eg, wd_Tok cs (re 0) rt ot tf' ta tg, wd_Prg cs (re 2) rp (fun k => if k = 2 then of else none) fp' (fun _ _ => 0) (fun _ _ => none), [((rp 1), .inl (cs 0, cn, .inl cd'))], P, wd_Opd cs hx (fun _ => 0) (fun k => if k = 4 then ox else none) fx' (fun _ _ => 0) (fun _ _ => none)]) ∧ (CurOk (tf' 10) (tf' 13) (tf' 14) (tf' 15) (tf' 17) (ta 0)) ∧ ((tf' 10).toInt = (tf 10).toInt) ∧ ((tf' 13).toInt = (tf 13).toInt) ∧ ((tf' 14).toInt = (tf 14).toInt) ∧ ((tf' 15).toInt = (tf 15).toInt) ∧ ((fx' 0).toInt = (fx 0).toInt) ∧ ((fx' 5).toInt = (fx 5).toInt) ∧ ((fx' 3).toInt = (fx 0).toInt) ∧ (Prel cn (fp 3) cd (fp' 3) cd') ∧ ((fp' 3).toInt ≤ (fp 3).toInt + 4)) (pc_B D (va_A ([wd_Exp cs he re eo ef ea eg, wd_Tok cs (re 0) rt ot tf ta tg, wd_Prg cs (re 2) rp (fun k => if k = 2 then of else none) fp (fun _ _ => 0) (fun _ _ => none), [((rp 1), .inl (cs 0, cn, .inl cd))], P, wd_Opd cs hx (fun _ => 0) (fun k => if k = 4 then ox else none) fx (fun _ _ => 0) (fun _ _ => none)] : List va_W).flatten s.heap.size)) (va_A ([wd_Exp cs he re eo ef ea eg, wd_Tok cs (re 0) rt ot tf ta tg, wd_Prg cs (re 2) rp (fun k => if k = 2 then of else none) fp (fun _ _ => 0) (fun _ _ => none), [((rp 1), .inl (cs 0, cn, .inl cd))], P, wd_Opd cs hx (fun _ => 0) (fun k => if k = 4 then ox else none) fx (fun _ _ => 0) (fun _ _ => none)] : List va_W).flatten s.heap.size)) [.ref he, .ref hx, .ref fa, .int p0].toArray s 0 0 A) (F0 m 45 ls []) := by
    intro tf_45 fp_45 cd_45 fx_45 H locs ls hi45_0 k45_0 k45_1 k45_2 k45_3 k45_4 k45_5 k45_6 k45_7 k45_8 hw hl
    obtain ⟨⟨o1, o2⟩, ⟨o3, o4⟩, ⟨o5, o6⟩, o7, o8, hlast⟩ := hi45_0
    have hrel := k45_7
    have pz45 := hrel.nm
    refine lv_aload_n S.x S.b d_Exp_conclude_45 rfl (lv_at hl 1 rfl) ?_
    refine lv_aload_n S.x S.b d_Exp_conclude_46 rfl (lv_at hl 2 rfl) ?_
    refine px_get S k_Sym hT hw 4 jf 6 (v := .int (sf 6)) rfl hjf rfl (by decide) m1_226 d_Exp_conclude_47 ?_
    refine lv_iconst (v := 3) S.x S.b d_Exp_conclude_50 (by decide) ?_
    refine lv_icmp_ne (tgt := 58) S.x S.b d_Exp_conclude_51 (by decide) (fun c1 => ?_) (fun c1 => ?_)
    · have nc1 : ¬ (sf 6).toInt = (3 : Int) := mt (i_eq (x := (sf 6)) (y := 3)).mpr c1
      refine lv_iconst (v := 0) S.x S.b d_Exp_conclude_58 (by decide) ?_
      refine px_put S k_Opd hT hw 5 0 1 rfl rfl (by decide) m4_221 rfl rfl rfl (Nat.le_of_ble_eq_true rfl) d_Exp_conclude_59 (w' := wd_Opd cs hx (fun _ => 0) (fun k => if k = 4 then ox else none) (upd fx_45 1 0) (fun _ _ => 0) (fun _ _ => none)) (ps' := [wd_Exp cs he re eo ef ea eg, wd_Tok cs (re 0) rt ot tf_45 ta tg, wd_Prg cs (re 2) rp (fun k => if k = 2 then of else none) fp_45 (fun _ _ => 0) (fun _ _ => none), [((rp 1), .inl (cs 0, cn, .inl cd_45))], P, wd_Opd cs hx (fun _ => 0) (fun k => if k = 4 then ox else none) (upd fx_45 1 0) (fun _ _ => 0) (fun _ _ => none)]) rfl rfl (fun H locs hw => ?_)
      refine lv_aload_n S.x S.b d_Exp_conclude_62 rfl (lv_at hl 2 rfl) ?_
      refine px_get S k_Sym hT hw 4 jf 5 (v := .int (sf 5)) rfl hjf rfl (by decide) m1_223 d_Exp_conclude_63 ?_
      refine lv_istore (lv' := [(4, .int (sf 5)), (0, .ref he), (1, .ref hx), (2, .ref fa), (3, .int p0)]) S.x S.b d_Exp_conclude_66 hl (by decide) rfl (fun ls hl => ?_)
      refine lv_iload S.x S.b d_Exp_conclude_68 (lv_at hl 0 rfl) ?_
      refine lv_if_ne (tgt := 89) S.x S.b d_Exp_conclude_70 (by decide) (fun c2 => ?_) (fun c2 => ?_)
      · have nc2 : ¬ (sf 5).toInt = (0 : Int) := mt (i_eq (x := (sf 5)) (y := 0)).mpr c2
        refine lv_iload S.x S.b d_Exp_conclude_89 (lv_at hl 0 rfl) ?_
        refine lv_bipush (v := 10) S.x S.b d_Exp_conclude_91 (by decide) ?_
        refine lv_icmp_ge (tgt := 113) S.x S.b d_Exp_conclude_93 (by decide) (fun c3 => ?_) (fun c3 => ?_)
        · have nc3 : (10 : Int) ≤ (sf 5).toInt := (i_le (x := 10) (y := (sf 5))).mp c3
          refine lv_aload_n S.x S.b d_Exp_conclude_113 rfl (lv_at hl 1 rfl) ?_
          refine px_get S k_Exp hT hw 0 0 2 (v := .ref (re 2)) rfl rfl rfl (by decide) m2_133 d_Exp_conclude_114 ?_
          refine lv_bipush (v := 22) S.x S.b d_Exp_conclude_117 (by decide) ?_
          refine lv_iload S.x S.b d_Exp_conclude_119 (lv_at hl 0 rfl) ?_
          refine lv_bipush (v := 10) S.x S.b d_Exp_conclude_121 (by decide) ?_
          refine lv_isub S.x S.b d_Exp_conclude_123 ?_
          have lr4 := Int32.le_toInt (sf 5)
          have ur4 := Int32.toInt_lt (sf 5)
          refine lv_topi (fun z5 ez5 => ?_)
          have tz5 : z5.toInt = ((sf 5).toInt - (10 : Int) + 2147483648) % 4294967296 - 2147483648 := by rw [ez5]; exact i_sub (sf 5) 10
          have lz5 := Int32.le_toInt z5
          have uz5 := Int32.toInt_lt z5
          try replace tz5 : z5.toInt = (sf 5).toInt - (10 : Int) := by omega
          refine lv_iconst (v := 0) S.x S.b d_Exp_conclude_124 (by decide) ?_
          refine lv_iconst (v := 0) S.x S.b d_Exp_conclude_125 (by decide) ?_
          have hw : pw D A s.heap _ _ [wd_Exp cs he re eo ef ea eg, wd_Tok cs (re 0) rt ot tf_45 ta tg, P, wd_Opd cs hx (fun _ => 0) (fun k => if k = 4 then ox else none) (upd fx_45 1 0) (fun _ _ => 0) (fun _ _ => none), wd_Prg cs (re 2) rp (fun k => if k = 2 then of else none) fp_45 (fun _ _ => 0) (fun _ _ => none), [((rp 1), .inl (cs 0, cn, .inl cd_45))]] := hw.sub [0, 1, 4, 5, 2, 3] rfl rfl
          refine px_calli (pr := [wd_Exp cs he re eo ef ea eg, wd_Tok cs (re 0) rt ot tf_45 ta tg, P, wd_Opd cs hx (fun _ => 0) (fun k => if k = 4 then ox else none) (upd fx_45 1 0) (fun _ _ => 0) (fun _ _ => none)]) (px_runV (As := [.int 22, .int z5, .int 0, .int 0]) (rest := []) S (c_pe_emit l D cs (re 2) rp of cn fp_45 cd_45 22 z5 0 0  (show cn % 4 = 0 from by first | exact g0 | omega) (show cn ≤ 100000 from by first | exact g1 | omega) hrel.1 (jop_call (by omega) (by omega)) _) hT (pr := [wd_Exp cs he re eo ef ea eg, wd_Tok cs (re 0) rt ot tf_45 ta tg, P, wd_Opd cs hx (fun _ => 0) (fun k => if k = 4 then ox else none) (upd fx_45 1 0) (fun _ _ => 0) (fun _ _ => none)]) (pcs := [wd_Prg cs (re 2) rp (fun k => if k = 2 then of else none) fp_45 (fun _ _ => 0) (fun _ _ => none), [((rp 1), .inl (cs 0, cn, .inl cd_45))]]) hw px_X.tt (px_recv hT hw 4 0 rfl rfl rfl) m4_181 m4_178 m4_179 m4_180 m1_16 q_Prg_emit ⟨Nat.le_of_ble_eq_true rfl, Nat.le_of_ble_eq_true rfl⟩ hl.1 rfl (Nat.le_of_ble_eq_true rfl) d_Exp_conclude_126 ⟨Nat.le_of_ble_eq_true rfl, Nat.le_of_ble_eq_true rfl⟩) hw hA (fun v11 p10 H locs hp10 hw => ?_)
          obtain ⟨fp8, cd9, rfl, hv_v11, hem, hwx, hsz, k0fp8, k4fp8, k5fp8⟩ := hp10
          have tv_v11 : v11.toInt = (fp_45 3).toInt := by rw [hv_v11]
          have hrel := hrel.tr hem
          have pz12 := hrel.nm
          have hsl_fp8 : (fp8 3).toInt ≤ (fp_45 3).toInt + 4 := by omega
          clear hsz
          replace hw : pw D A s.heap H locs [wd_Exp cs he re eo ef ea eg, wd_Tok cs (re 0) rt ot tf_45 ta tg, P, wd_Opd cs hx (fun _ => 0) (fun k => if k = 4 then ox else none) (upd fx_45 1 0) (fun _ _ => 0) (fun _ _ => none), wd_Prg cs (re 2) rp (fun k => if k = 2 then of else none) fp8 (fun _ _ => 0) (fun _ _ => none), [((rp 1), .inl (cs 0, cn, .inl cd9))]] := hw
          have lv11 := Int32.le_toInt v11
          have uv11 := Int32.toInt_lt v11
          refine lv_pop S.x S.b d_Exp_conclude_129 rfl ?_
          have hw : pw D A s.heap _ _ [wd_Exp cs he re eo ef ea eg, wd_Tok cs (re 0) rt ot tf_45 ta tg, wd_Prg cs (re 2) rp (fun k => if k = 2 then of else none) fp8 (fun _ _ => 0) (fun _ _ => none), [((rp 1), .inl (cs 0, cn, .inl cd9))], P, wd_Opd cs hx (fun _ => 0) (fun k => if k = 4 then ox else none) (upd fx_45 1 0) (fun _ _ => 0) (fun _ _ => none)] := hw.sub [0, 1, 4, 5, 2, 3] rfl rfl
          exact px_vret S hr hlk hAe hw (Nat.le_of_ble_eq_true rfl) (Nat.le_of_ble_eq_true rfl) (⟨tf_45, fp8, cd9, (upd fx_45 1 0), rfl, (show CurOk (tf_45 10) (tf_45 13) (tf_45 14) (tf_45 15) (tf_45 17) (ta 0) from ⟨⟨by first | exact o1 | omega, by first | exact o2 | omega⟩, ⟨by first | exact o3 | omega, by first | exact o4 | omega⟩, ⟨by first | exact o5 | omega, by first | exact o6 | omega⟩, by first | exact o7 | omega, by omega, last_eq hlast (rfl)⟩), (show (tf_45 10).toInt = (tf 10).toInt from by first | exact k45_0 | omega), (show (tf_45 13).toInt = (tf 13).toInt from by first | exact k45_1 | omega), (show (tf_45 14).toInt = (tf 14).toInt from by first | exact k45_2 | omega), (show (tf_45 15).toInt = (tf 15).toInt from by first | exact k45_3 | omega), (show (fx_45 0).toInt = (fx 0).toInt from by first | exact k45_4 | omega), (show (fx_45 5).toInt = (fx 5).toInt from by first | exact k45_5 | omega), (show (fx_45 3).toInt = (fx 0).toInt from by first | exact k45_6 | omega), (show Prel cn (fp 3) cd (fp8 3) cd9 from hrel), (show (fp8 3).toInt ≤ (fp 3).toInt + 4 from by first | exact oz_3980c4833a k45_8 hsl_fp8 | omega)⟩) d_Exp_conclude_130
        · have nc3 : ¬ (10 : Int) ≤ (sf 5).toInt := mt (i_le (x := 10) (y := (sf 5))).mpr c3
          refine lv_aload_n S.x S.b d_Exp_conclude_96 rfl (lv_at hl 1 rfl) ?_
          refine px_get S k_Exp hT hw 0 0 2 (v := .ref (re 2)) rfl rfl rfl (by decide) m2_133 d_Exp_conclude_97 ?_
          refine lv_bipush (v := 23) S.x S.b d_Exp_conclude_100 (by decide) ?_
          refine lv_iload S.x S.b d_Exp_conclude_102 (lv_at hl 0 rfl) ?_
          refine lv_iconst (v := 0) S.x S.b d_Exp_conclude_104 (by decide) ?_
          refine lv_iconst (v := 0) S.x S.b d_Exp_conclude_105 (by decide) ?_
          have hw : pw D A s.heap _ _ [wd_Exp cs he re eo ef ea eg, wd_Tok cs (re 0) rt ot tf_45 ta tg, P, wd_Opd cs hx (fun _ => 0) (fun k => if k = 4 then ox else none) (upd fx_45 1 0) (fun _ _ => 0) (fun _ _ => none), wd_Prg cs (re 2) rp (fun k => if k = 2 then of else none) fp_45 (fun _ _ => 0) (fun _ _ => none), [((rp 1), .inl (cs 0, cn, .inl cd_45))]] := hw.sub [0, 1, 4, 5, 2, 3] rfl rfl
          refine px_calli (pr := [wd_Exp cs he re eo ef ea eg, wd_Tok cs (re 0) rt ot tf_45 ta tg, P, wd_Opd cs hx (fun _ => 0) (fun k => if k = 4 then ox else none) (upd fx_45 1 0) (fun _ _ => 0) (fun _ _ => none)]) (px_runV (As := [.int 23, .int (sf 5), .int 0, .int 0]) (rest := []) S (c_pe_emit l D cs (re 2) rp of cn fp_45 cd_45 23 (sf 5) 0 0  (show cn % 4 = 0 from by first | exact g0 | omega) (show cn ≤ 100000 from by first | exact g1 | omega) hrel.1 (jop_hi (by decide)) _) hT (pr := [wd_Exp cs he re eo ef ea eg, wd_Tok cs (re 0) rt ot tf_45 ta tg, P, wd_Opd cs hx (fun _ => 0) (fun k => if k = 4 then ox else none) (upd fx_45 1 0) (fun _ _ => 0) (fun _ _ => none)]) (pcs := [wd_Prg cs (re 2) rp (fun k => if k = 2 then of else none) fp_45 (fun _ _ => 0) (fun _ _ => none), [((rp 1), .inl (cs 0, cn, .inl cd_45))]]) hw px_X.tt (px_recv hT hw 4 0 rfl rfl rfl) m4_181 m4_178 m4_179 m4_180 m1_16 q_Prg_emit ⟨Nat.le_of_ble_eq_true rfl, Nat.le_of_ble_eq_true rfl⟩ hl.1 rfl (Nat.le_of_ble_eq_true rfl) d_Exp_conclude_106 ⟨Nat.le_of_ble_eq_true rfl, Nat.le_of_ble_eq_true rfl⟩) hw hA (fun v18 p17 H locs hp17 hw => ?_)
          obtain ⟨fp15, cd16, rfl, hv_v18, hem, hwx, hsz, k0fp15, k4fp15, k5fp15⟩ := hp17
          have tv_v18 : v18.toInt = (fp_45 3).toInt := by rw [hv_v18]
          have hrel := hrel.tr hem
          have pz19 := hrel.nm
          have hsl_fp15 : (fp15 3).toInt ≤ (fp_45 3).toInt + 4 := by omega
          clear hsz
          replace hw : pw D A s.heap H locs [wd_Exp cs he re eo ef ea eg, wd_Tok cs (re 0) rt ot tf_45 ta tg, P, wd_Opd cs hx (fun _ => 0) (fun k => if k = 4 then ox else none) (upd fx_45 1 0) (fun _ _ => 0) (fun _ _ => none), wd_Prg cs (re 2) rp (fun k => if k = 2 then of else none) fp15 (fun _ _ => 0) (fun _ _ => none), [((rp 1), .inl (cs 0, cn, .inl cd16))]] := hw
          have lv18 := Int32.le_toInt v18
          have uv18 := Int32.toInt_lt v18
          refine lv_pop S.x S.b d_Exp_conclude_109 rfl ?_
          refine lv_goto (tgt := 130) S.x S.b d_Exp_conclude_110 (by decide) ?_
          have hw : pw D A s.heap _ _ [wd_Exp cs he re eo ef ea eg, wd_Tok cs (re 0) rt ot tf_45 ta tg, wd_Prg cs (re 2) rp (fun k => if k = 2 then of else none) fp15 (fun _ _ => 0) (fun _ _ => none), [((rp 1), .inl (cs 0, cn, .inl cd16))], P, wd_Opd cs hx (fun _ => 0) (fun k => if k = 4 then ox else none) (upd fx_45 1 0) (fun _ _ => 0) (fun _ _ => none)] := hw.sub [0, 1, 4, 5, 2, 3] rfl rfl
          exact px_vret S hr hlk hAe hw (Nat.le_of_ble_eq_true rfl) (Nat.le_of_ble_eq_true rfl) (⟨tf_45, fp15, cd16, (upd fx_45 1 0), rfl, (show CurOk (tf_45 10) (tf_45 13) (tf_45 14) (tf_45 15) (tf_45 17) (ta 0) from ⟨⟨by first | exact o1 | omega, by first | exact o2 | omega⟩, ⟨by first | exact o3 | omega, by first | exact o4 | omega⟩, ⟨by first | exact o5 | omega, by first | exact o6 | omega⟩, by first | exact o7 | omega, by omega, last_eq hlast (rfl)⟩), (show (tf_45 10).toInt = (tf 10).toInt from by first | exact k45_0 | omega), (show (tf_45 13).toInt = (tf 13).toInt from by first | exact k45_1 | omega), (show (tf_45 14).toInt = (tf 14).toInt from by first | exact k45_2 | omega), (show (tf_45 15).toInt = (tf 15).toInt from by first | exact k45_3 | omega), (show (fx_45 0).toInt = (fx 0).toInt from by first | exact k45_4 | omega), (show (fx_45 5).toInt = (fx 5).toInt from by first | exact k45_5 | omega), (show (fx_45 3).toInt = (fx 0).toInt from by first | exact k45_6 | omega), (show Prel cn (fp 3) cd (fp15 3) cd16 from hrel), (show (fp15 3).toInt ≤ (fp 3).toInt + 4 from by first | exact oz_3980c4833a k45_8 hsl_fp15 | omega)⟩) d_Exp_conclude_130
      · have nc2 : (sf 5).toInt = (0 : Int) := (i_eq (x := (sf 5)) (y := 0)).mp c2
        refine lv_aload_n S.x S.b d_Exp_conclude_73 rfl (lv_at hl 1 rfl) ?_
        refine px_get S k_Exp hT hw 0 0 2 (v := .ref (re 2)) rfl rfl rfl (by decide) m2_133 d_Exp_conclude_74 ?_
        refine lv_bipush (v := 12) S.x S.b d_Exp_conclude_77 (by decide) ?_
        refine lv_iconst (v := 0) S.x S.b d_Exp_conclude_79 (by decide) ?_
        refine lv_iconst (v := 0) S.x S.b d_Exp_conclude_80 (by decide) ?_
        refine lv_iconst (v := 0) S.x S.b d_Exp_conclude_81 (by decide) ?_
        have hw : pw D A s.heap _ _ [wd_Exp cs he re eo ef ea eg, wd_Tok cs (re 0) rt ot tf_45 ta tg, P, wd_Opd cs hx (fun _ => 0) (fun k => if k = 4 then ox else none) (upd fx_45 1 0) (fun _ _ => 0) (fun _ _ => none), wd_Prg cs (re 2) rp (fun k => if k = 2 then of else none) fp_45 (fun _ _ => 0) (fun _ _ => none), [((rp 1), .inl (cs 0, cn, .inl cd_45))]] := hw.sub [0, 1, 4, 5, 2, 3] rfl rfl
        refine px_calli (pr := [wd_Exp cs he re eo ef ea eg, wd_Tok cs (re 0) rt ot tf_45 ta tg, P, wd_Opd cs hx (fun _ => 0) (fun k => if k = 4 then ox else none) (upd fx_45 1 0) (fun _ _ => 0) (fun _ _ => none)]) (px_runV (As := [.int 12, .int 0, .int 0, .int 0]) (rest := []) S (c_pe_emit l D cs (re 2) rp of cn fp_45 cd_45 12 0 0 0  (show cn % 4 = 0 from by first | exact g0 | omega) (show cn ≤ 100000 from by first | exact g1 | omega) hrel.1 (jop_low (by decide)) _) hT (pr := [wd_Exp cs he re eo ef ea eg, wd_Tok cs (re 0) rt ot tf_45 ta tg, P, wd_Opd cs hx (fun _ => 0) (fun k => if k = 4 then ox else none) (upd fx_45 1 0) (fun _ _ => 0) (fun _ _ => none)]) (pcs := [wd_Prg cs (re 2) rp (fun k => if k = 2 then of else none) fp_45 (fun _ _ => 0) (fun _ _ => none), [((rp 1), .inl (cs 0, cn, .inl cd_45))]]) hw px_X.tt (px_recv hT hw 4 0 rfl rfl rfl) m4_181 m4_178 m4_179 m4_180 m1_16 q_Prg_emit ⟨Nat.le_of_ble_eq_true rfl, Nat.le_of_ble_eq_true rfl⟩ hl.1 rfl (Nat.le_of_ble_eq_true rfl) d_Exp_conclude_82 ⟨Nat.le_of_ble_eq_true rfl, Nat.le_of_ble_eq_true rfl⟩) hw hA (fun v25 p24 H locs hp24 hw => ?_)
        obtain ⟨fp22, cd23, rfl, hv_v25, hem, hwx, hsz, k0fp22, k4fp22, k5fp22⟩ := hp24
        have tv_v25 : v25.toInt = (fp_45 3).toInt := by rw [hv_v25]
        have hrel := hrel.tr hem
        have pz26 := hrel.nm
        have hsl_fp22 : (fp22 3).toInt ≤ (fp_45 3).toInt + 4 := by omega
        clear hsz
        replace hw : pw D A s.heap H locs [wd_Exp cs he re eo ef ea eg, wd_Tok cs (re 0) rt ot tf_45 ta tg, P, wd_Opd cs hx (fun _ => 0) (fun k => if k = 4 then ox else none) (upd fx_45 1 0) (fun _ _ => 0) (fun _ _ => none), wd_Prg cs (re 2) rp (fun k => if k = 2 then of else none) fp22 (fun _ _ => 0) (fun _ _ => none), [((rp 1), .inl (cs 0, cn, .inl cd23))]] := hw
        have lv25 := Int32.le_toInt v25
        have uv25 := Int32.toInt_lt v25
        refine lv_pop S.x S.b d_Exp_conclude_85 rfl ?_
        refine lv_goto (tgt := 130) S.x S.b d_Exp_conclude_86 (by decide) ?_
        have hw : pw D A s.heap _ _ [wd_Exp cs he re eo ef ea eg, wd_Tok cs (re 0) rt ot tf_45 ta tg, wd_Prg cs (re 2) rp (fun k => if k = 2 then of else none) fp22 (fun _ _ => 0) (fun _ _ => none), [((rp 1), .inl (cs 0, cn, .inl cd23))], P, wd_Opd cs hx (fun _ => 0) (fun k => if k = 4 then ox else none) (upd fx_45 1 0) (fun _ _ => 0) (fun _ _ => none)] := hw.sub [0, 1, 4, 5, 2, 3] rfl rfl
        exact px_vret S hr hlk hAe hw (Nat.le_of_ble_eq_true rfl) (Nat.le_of_ble_eq_true rfl) (⟨tf_45, fp22, cd23, (upd fx_45 1 0), rfl, (show CurOk (tf_45 10) (tf_45 13) (tf_45 14) (tf_45 15) (tf_45 17) (ta 0) from ⟨⟨by first | exact o1 | omega, by first | exact o2 | omega⟩, ⟨by first | exact o3 | omega, by first | exact o4 | omega⟩, ⟨by first | exact o5 | omega, by first | exact o6 | omega⟩, by first | exact o7 | omega, by omega, last_eq hlast (rfl)⟩), (show (tf_45 10).toInt = (tf 10).toInt from by first | exact k45_0 | omega), (show (tf_45 13).toInt = (tf 13).toInt from by first | exact k45_1 | omega), (show (tf_45 14).toInt = (tf 14).toInt from by first | exact k45_2 | omega), (show (tf_45 15).toInt = (tf 15).toInt from by first | exact k45_3 | omega), (show (fx_45 0).toInt = (fx 0).toInt from by first | exact k45_4 | omega), (show (fx_45 5).toInt = (fx 5).toInt from by first | exact k45_5 | omega), (show (fx_45 3).toInt = (fx 0).toInt from by first | exact k45_6 | omega), (show Prel cn (fp 3) cd (fp22 3) cd23 from hrel), (show (fp22 3).toInt ≤ (fp 3).toInt + 4 from by first | exact oz_3980c4833a k45_8 hsl_fp22 | omega)⟩) d_Exp_conclude_130
    · have nc1 : (sf 6).toInt = (3 : Int) := (i_eq (x := (sf 6)) (y := 3)).mp c1
      refine lv_iconst (v := 3) S.x S.b d_Exp_conclude_54 (by decide) ?_
      refine lv_goto (tgt := 59) S.x S.b d_Exp_conclude_55 (by decide) ?_
      refine px_put S k_Opd hT hw 5 0 1 rfl rfl (by decide) m4_221 rfl rfl rfl (Nat.le_of_ble_eq_true rfl) d_Exp_conclude_59 (w' := wd_Opd cs hx (fun _ => 0) (fun k => if k = 4 then ox else none) (upd fx_45 1 3) (fun _ _ => 0) (fun _ _ => none)) (ps' := [wd_Exp cs he re eo ef ea eg, wd_Tok cs (re 0) rt ot tf_45 ta tg, wd_Prg cs (re 2) rp (fun k => if k = 2 then of else none) fp_45 (fun _ _ => 0) (fun _ _ => none), [((rp 1), .inl (cs 0, cn, .inl cd_45))], P, wd_Opd cs hx (fun _ => 0) (fun k => if k = 4 then ox else none) (upd fx_45 1 3) (fun _ _ => 0) (fun _ _ => none)]) rfl rfl (fun H locs hw => ?_)
      refine lv_aload_n S.x S.b d_Exp_conclude_62 rfl (lv_at hl 2 rfl) ?_
      refine px_get S k_Sym hT hw 4 jf 5 (v := .int (sf 5)) rfl hjf rfl (by decide) m1_223 d_Exp_conclude_63 ?_
      refine lv_istore (lv' := [(4, .int (sf 5)), (0, .ref he), (1, .ref hx), (2, .ref fa), (3, .int p0)]) S.x S.b d_Exp_conclude_66 hl (by decide) rfl (fun ls hl => ?_)
      refine lv_iload S.x S.b d_Exp_conclude_68 (lv_at hl 0 rfl) ?_
      refine lv_if_ne (tgt := 89) S.x S.b d_Exp_conclude_70 (by decide) (fun c27 => ?_) (fun c27 => ?_)
      · have nc27 : ¬ (sf 5).toInt = (0 : Int) := mt (i_eq (x := (sf 5)) (y := 0)).mpr c27
        refine lv_iload S.x S.b d_Exp_conclude_89 (lv_at hl 0 rfl) ?_
        refine lv_bipush (v := 10) S.x S.b d_Exp_conclude_91 (by decide) ?_
        refine lv_icmp_ge (tgt := 113) S.x S.b d_Exp_conclude_93 (by decide) (fun c28 => ?_) (fun c28 => ?_)
        · have nc28 : (10 : Int) ≤ (sf 5).toInt := (i_le (x := 10) (y := (sf 5))).mp c28
          refine lv_aload_n S.x S.b d_Exp_conclude_113 rfl (lv_at hl 1 rfl) ?_
          refine px_get S k_Exp hT hw 0 0 2 (v := .ref (re 2)) rfl rfl rfl (by decide) m2_133 d_Exp_conclude_114 ?_
          refine lv_bipush (v := 22) S.x S.b d_Exp_conclude_117 (by decide) ?_
          refine lv_iload S.x S.b d_Exp_conclude_119 (lv_at hl 0 rfl) ?_
          refine lv_bipush (v := 10) S.x S.b d_Exp_conclude_121 (by decide) ?_
          refine lv_isub S.x S.b d_Exp_conclude_123 ?_
          have lr29 := Int32.le_toInt (sf 5)
          have ur29 := Int32.toInt_lt (sf 5)
          refine lv_topi (fun z30 ez30 => ?_)
          have tz30 : z30.toInt = ((sf 5).toInt - (10 : Int) + 2147483648) % 4294967296 - 2147483648 := by rw [ez30]; exact i_sub (sf 5) 10
          have lz30 := Int32.le_toInt z30
          have uz30 := Int32.toInt_lt z30
          try replace tz30 : z30.toInt = (sf 5).toInt - (10 : Int) := by omega
          refine lv_iconst (v := 0) S.x S.b d_Exp_conclude_124 (by decide) ?_
          refine lv_iconst (v := 0) S.x S.b d_Exp_conclude_125 (by decide) ?_
          have hw : pw D A s.heap _ _ [wd_Exp cs he re eo ef ea eg, wd_Tok cs (re 0) rt ot tf_45 ta tg, P, wd_Opd cs hx (fun _ => 0) (fun k => if k = 4 then ox else none) (upd fx_45 1 3) (fun _ _ => 0) (fun _ _ => none), wd_Prg cs (re 2) rp (fun k => if k = 2 then of else none) fp_45 (fun _ _ => 0) (fun _ _ => none), [((rp 1), .inl (cs 0, cn, .inl cd_45))]] := hw.sub [0, 1, 4, 5, 2, 3] rfl rfl
          refine px_calli (pr := [wd_Exp cs he re eo ef ea eg, wd_Tok cs (re 0) rt ot tf_45 ta tg, P, wd_Opd cs hx (fun _ => 0) (fun k => if k = 4 then ox else none) (upd fx_45 1 3) (fun _ _ => 0) (fun _ _ => none)]) (px_runV (As := [.int 22, .int z30, .int 0, .int 0]) (rest := []) S (c_pe_emit l D cs (re 2) rp of cn fp_45 cd_45 22 z30 0 0  (show cn % 4 = 0 from by first | exact g0 | omega) (show cn ≤ 100000 from by first | exact g1 | omega) hrel.1 (jop_call (by omega) (by omega)) _) hT (pr := [wd_Exp cs he re eo ef ea eg, wd_Tok cs (re 0) rt ot tf_45 ta tg, P, wd_Opd cs hx (fun _ => 0) (fun k => if k = 4 then ox else none) (upd fx_45 1 3) (fun _ _ => 0) (fun _ _ => none)]) (pcs := [wd_Prg cs (re 2) rp (fun k => if k = 2 then of else none) fp_45 (fun _ _ => 0) (fun _ _ => none), [((rp 1), .inl (cs 0, cn, .inl cd_45))]]) hw px_X.tt (px_recv hT hw 4 0 rfl rfl rfl) m4_181 m4_178 m4_179 m4_180 m1_16 q_Prg_emit ⟨Nat.le_of_ble_eq_true rfl, Nat.le_of_ble_eq_true rfl⟩ hl.1 rfl (Nat.le_of_ble_eq_true rfl) d_Exp_conclude_126 ⟨Nat.le_of_ble_eq_true rfl, Nat.le_of_ble_eq_true rfl⟩) hw hA (fun v36 p35 H locs hp35 hw => ?_)
          obtain ⟨fp33, cd34, rfl, hv_v36, hem, hwx, hsz, k0fp33, k4fp33, k5fp33⟩ := hp35
          have tv_v36 : v36.toInt = (fp_45 3).toInt := by rw [hv_v36]
          have hrel := hrel.tr hem
          have pz37 := hrel.nm
          have hsl_fp33 : (fp33 3).toInt ≤ (fp_45 3).toInt + 4 := by omega
          clear hsz
          replace hw : pw D A s.heap H locs [wd_Exp cs he re eo ef ea eg, wd_Tok cs (re 0) rt ot tf_45 ta tg, P, wd_Opd cs hx (fun _ => 0) (fun k => if k = 4 then ox else none) (upd fx_45 1 3) (fun _ _ => 0) (fun _ _ => none), wd_Prg cs (re 2) rp (fun k => if k = 2 then of else none) fp33 (fun _ _ => 0) (fun _ _ => none), [((rp 1), .inl (cs 0, cn, .inl cd34))]] := hw
          have lv36 := Int32.le_toInt v36
          have uv36 := Int32.toInt_lt v36
          refine lv_pop S.x S.b d_Exp_conclude_129 rfl ?_
          have hw : pw D A s.heap _ _ [wd_Exp cs he re eo ef ea eg, wd_Tok cs (re 0) rt ot tf_45 ta tg, wd_Prg cs (re 2) rp (fun k => if k = 2 then of else none) fp33 (fun _ _ => 0) (fun _ _ => none), [((rp 1), .inl (cs 0, cn, .inl cd34))], P, wd_Opd cs hx (fun _ => 0) (fun k => if k = 4 then ox else none) (upd fx_45 1 3) (fun _ _ => 0) (fun _ _ => none)] := hw.sub [0, 1, 4, 5, 2, 3] rfl rfl
          exact px_vret S hr hlk hAe hw (Nat.le_of_ble_eq_true rfl) (Nat.le_of_ble_eq_true rfl) (⟨tf_45, fp33, cd34, (upd fx_45 1 3), rfl, (show CurOk (tf_45 10) (tf_45 13) (tf_45 14) (tf_45 15) (tf_45 17) (ta 0) from ⟨⟨by first | exact o1 | omega, by first | exact o2 | omega⟩, ⟨by first | exact o3 | omega, by first | exact o4 | omega⟩, ⟨by first | exact o5 | omega, by first | exact o6 | omega⟩, by first | exact o7 | omega, by omega, last_eq hlast (rfl)⟩), (show (tf_45 10).toInt = (tf 10).toInt from by first | exact k45_0 | omega), (show (tf_45 13).toInt = (tf 13).toInt from by first | exact k45_1 | omega), (show (tf_45 14).toInt = (tf 14).toInt from by first | exact k45_2 | omega), (show (tf_45 15).toInt = (tf 15).toInt from by first | exact k45_3 | omega), (show (fx_45 0).toInt = (fx 0).toInt from by first | exact k45_4 | omega), (show (fx_45 5).toInt = (fx 5).toInt from by first | exact k45_5 | omega), (show (fx_45 3).toInt = (fx 0).toInt from by first | exact k45_6 | omega), (show Prel cn (fp 3) cd (fp33 3) cd34 from hrel), (show (fp33 3).toInt ≤ (fp 3).toInt + 4 from by first | exact oz_3980c4833a k45_8 hsl_fp33 | omega)⟩) d_Exp_conclude_130
        · have nc28 : ¬ (10 : Int) ≤ (sf 5).toInt := mt (i_le (x := 10) (y := (sf 5))).mpr c28
          refine lv_aload_n S.x S.b d_Exp_conclude_96 rfl (lv_at hl 1 rfl) ?_
          refine px_get S k_Exp hT hw 0 0 2 (v := .ref (re 2)) rfl rfl rfl (by decide) m2_133 d_Exp_conclude_97 ?_
          refine lv_bipush (v := 23) S.x S.b d_Exp_conclude_100 (by decide) ?_
          refine lv_iload S.x S.b d_Exp_conclude_102 (lv_at hl 0 rfl) ?_
          refine lv_iconst (v := 0) S.x S.b d_Exp_conclude_104 (by decide) ?_
          refine lv_iconst (v := 0) S.x S.b d_Exp_conclude_105 (by decide) ?_
          have hw : pw D A s.heap _ _ [wd_Exp cs he re eo ef ea eg, wd_Tok cs (re 0) rt ot tf_45 ta tg, P, wd_Opd cs hx (fun _ => 0) (fun k => if k = 4 then ox else none) (upd fx_45 1 3) (fun _ _ => 0) (fun _ _ => none), wd_Prg cs (re 2) rp (fun k => if k = 2 then of else none) fp_45 (fun _ _ => 0) (fun _ _ => none), [((rp 1), .inl (cs 0, cn, .inl cd_45))]] := hw.sub [0, 1, 4, 5, 2, 3] rfl rfl
          refine px_calli (pr := [wd_Exp cs he re eo ef ea eg, wd_Tok cs (re 0) rt ot tf_45 ta tg, P, wd_Opd cs hx (fun _ => 0) (fun k => if k = 4 then ox else none) (upd fx_45 1 3) (fun _ _ => 0) (fun _ _ => none)]) (px_runV (As := [.int 23, .int (sf 5), .int 0, .int 0]) (rest := []) S (c_pe_emit l D cs (re 2) rp of cn fp_45 cd_45 23 (sf 5) 0 0  (show cn % 4 = 0 from by first | exact g0 | omega) (show cn ≤ 100000 from by first | exact g1 | omega) hrel.1 (jop_hi (by decide)) _) hT (pr := [wd_Exp cs he re eo ef ea eg, wd_Tok cs (re 0) rt ot tf_45 ta tg, P, wd_Opd cs hx (fun _ => 0) (fun k => if k = 4 then ox else none) (upd fx_45 1 3) (fun _ _ => 0) (fun _ _ => none)]) (pcs := [wd_Prg cs (re 2) rp (fun k => if k = 2 then of else none) fp_45 (fun _ _ => 0) (fun _ _ => none), [((rp 1), .inl (cs 0, cn, .inl cd_45))]]) hw px_X.tt (px_recv hT hw 4 0 rfl rfl rfl) m4_181 m4_178 m4_179 m4_180 m1_16 q_Prg_emit ⟨Nat.le_of_ble_eq_true rfl, Nat.le_of_ble_eq_true rfl⟩ hl.1 rfl (Nat.le_of_ble_eq_true rfl) d_Exp_conclude_106 ⟨Nat.le_of_ble_eq_true rfl, Nat.le_of_ble_eq_true rfl⟩) hw hA (fun v43 p42 H locs hp42 hw => ?_)
          obtain ⟨fp40, cd41, rfl, hv_v43, hem, hwx, hsz, k0fp40, k4fp40, k5fp40⟩ := hp42
          have tv_v43 : v43.toInt = (fp_45 3).toInt := by rw [hv_v43]
          have hrel := hrel.tr hem
          have pz44 := hrel.nm
          have hsl_fp40 : (fp40 3).toInt ≤ (fp_45 3).toInt + 4 := by omega
          clear hsz
          replace hw : pw D A s.heap H locs [wd_Exp cs he re eo ef ea eg, wd_Tok cs (re 0) rt ot tf_45 ta tg, P, wd_Opd cs hx (fun _ => 0) (fun k => if k = 4 then ox else none) (upd fx_45 1 3) (fun _ _ => 0) (fun _ _ => none), wd_Prg cs (re 2) rp (fun k => if k = 2 then of else none) fp40 (fun _ _ => 0) (fun _ _ => none), [((rp 1), .inl (cs 0, cn, .inl cd41))]] := hw
          have lv43 := Int32.le_toInt v43
          have uv43 := Int32.toInt_lt v43
          refine lv_pop S.x S.b d_Exp_conclude_109 rfl ?_
          refine lv_goto (tgt := 130) S.x S.b d_Exp_conclude_110 (by decide) ?_
          have hw : pw D A s.heap _ _ [wd_Exp cs he re eo ef ea eg, wd_Tok cs (re 0) rt ot tf_45 ta tg, wd_Prg cs (re 2) rp (fun k => if k = 2 then of else none) fp40 (fun _ _ => 0) (fun _ _ => none), [((rp 1), .inl (cs 0, cn, .inl cd41))], P, wd_Opd cs hx (fun _ => 0) (fun k => if k = 4 then ox else none) (upd fx_45 1 3) (fun _ _ => 0) (fun _ _ => none)] := hw.sub [0, 1, 4, 5, 2, 3] rfl rfl
          exact px_vret S hr hlk hAe hw (Nat.le_of_ble_eq_true rfl) (Nat.le_of_ble_eq_true rfl) (⟨tf_45, fp40, cd41, (upd fx_45 1 3), rfl, (show CurOk (tf_45 10) (tf_45 13) (tf_45 14) (tf_45 15) (tf_45 17) (ta 0) from ⟨⟨by first | exact o1 | omega, by first | exact o2 | omega⟩, ⟨by first | exact o3 | omega, by first | exact o4 | omega⟩, ⟨by first | exact o5 | omega, by first | exact o6 | omega⟩, by first | exact o7 | omega, by omega, last_eq hlast (rfl)⟩), (show (tf_45 10).toInt = (tf 10).toInt from by first | exact k45_0 | omega), (show (tf_45 13).toInt = (tf 13).toInt from by first | exact k45_1 | omega), (show (tf_45 14).toInt = (tf 14).toInt from by first | exact k45_2 | omega), (show (tf_45 15).toInt = (tf 15).toInt from by first | exact k45_3 | omega), (show (fx_45 0).toInt = (fx 0).toInt from by first | exact k45_4 | omega), (show (fx_45 5).toInt = (fx 5).toInt from by first | exact k45_5 | omega), (show (fx_45 3).toInt = (fx 0).toInt from by first | exact k45_6 | omega), (show Prel cn (fp 3) cd (fp40 3) cd41 from hrel), (show (fp40 3).toInt ≤ (fp 3).toInt + 4 from by first | exact oz_3980c4833a k45_8 hsl_fp40 | omega)⟩) d_Exp_conclude_130
      · have nc27 : (sf 5).toInt = (0 : Int) := (i_eq (x := (sf 5)) (y := 0)).mp c27
        refine lv_aload_n S.x S.b d_Exp_conclude_73 rfl (lv_at hl 1 rfl) ?_
        refine px_get S k_Exp hT hw 0 0 2 (v := .ref (re 2)) rfl rfl rfl (by decide) m2_133 d_Exp_conclude_74 ?_
        refine lv_bipush (v := 12) S.x S.b d_Exp_conclude_77 (by decide) ?_
        refine lv_iconst (v := 0) S.x S.b d_Exp_conclude_79 (by decide) ?_
        refine lv_iconst (v := 0) S.x S.b d_Exp_conclude_80 (by decide) ?_
        refine lv_iconst (v := 0) S.x S.b d_Exp_conclude_81 (by decide) ?_
        have hw : pw D A s.heap _ _ [wd_Exp cs he re eo ef ea eg, wd_Tok cs (re 0) rt ot tf_45 ta tg, P, wd_Opd cs hx (fun _ => 0) (fun k => if k = 4 then ox else none) (upd fx_45 1 3) (fun _ _ => 0) (fun _ _ => none), wd_Prg cs (re 2) rp (fun k => if k = 2 then of else none) fp_45 (fun _ _ => 0) (fun _ _ => none), [((rp 1), .inl (cs 0, cn, .inl cd_45))]] := hw.sub [0, 1, 4, 5, 2, 3] rfl rfl
        refine px_calli (pr := [wd_Exp cs he re eo ef ea eg, wd_Tok cs (re 0) rt ot tf_45 ta tg, P, wd_Opd cs hx (fun _ => 0) (fun k => if k = 4 then ox else none) (upd fx_45 1 3) (fun _ _ => 0) (fun _ _ => none)]) (px_runV (As := [.int 12, .int 0, .int 0, .int 0]) (rest := []) S (c_pe_emit l D cs (re 2) rp of cn fp_45 cd_45 12 0 0 0  (show cn % 4 = 0 from by first | exact g0 | omega) (show cn ≤ 100000 from by first | exact g1 | omega) hrel.1 (jop_low (by decide)) _) hT (pr := [wd_Exp cs he re eo ef ea eg, wd_Tok cs (re 0) rt ot tf_45 ta tg, P, wd_Opd cs hx (fun _ => 0) (fun k => if k = 4 then ox else none) (upd fx_45 1 3) (fun _ _ => 0) (fun _ _ => none)]) (pcs := [wd_Prg cs (re 2) rp (fun k => if k = 2 then of else none) fp_45 (fun _ _ => 0) (fun _ _ => none), [((rp 1), .inl (cs 0, cn, .inl cd_45))]]) hw px_X.tt (px_recv hT hw 4 0 rfl rfl rfl) m4_181 m4_178 m4_179 m4_180 m1_16 q_Prg_emit ⟨Nat.le_of_ble_eq_true rfl, Nat.le_of_ble_eq_true rfl⟩ hl.1 rfl (Nat.le_of_ble_eq_true rfl) d_Exp_conclude_82 ⟨Nat.le_of_ble_eq_true rfl, Nat.le_of_ble_eq_true rfl⟩) hw hA (fun v50 p49 H locs hp49 hw => ?_)
        obtain ⟨fp47, cd48, rfl, hv_v50, hem, hwx, hsz, k0fp47, k4fp47, k5fp47⟩ := hp49
        have tv_v50 : v50.toInt = (fp_45 3).toInt := by rw [hv_v50]
        have hrel := hrel.tr hem
        have pz51 := hrel.nm
        have hsl_fp47 : (fp47 3).toInt ≤ (fp_45 3).toInt + 4 := by omega
        clear hsz
        replace hw : pw D A s.heap H locs [wd_Exp cs he re eo ef ea eg, wd_Tok cs (re 0) rt ot tf_45 ta tg, P, wd_Opd cs hx (fun _ => 0) (fun k => if k = 4 then ox else none) (upd fx_45 1 3) (fun _ _ => 0) (fun _ _ => none), wd_Prg cs (re 2) rp (fun k => if k = 2 then of else none) fp47 (fun _ _ => 0) (fun _ _ => none), [((rp 1), .inl (cs 0, cn, .inl cd48))]] := hw
        have lv50 := Int32.le_toInt v50
        have uv50 := Int32.toInt_lt v50
        refine lv_pop S.x S.b d_Exp_conclude_85 rfl ?_
        refine lv_goto (tgt := 130) S.x S.b d_Exp_conclude_86 (by decide) ?_
        have hw : pw D A s.heap _ _ [wd_Exp cs he re eo ef ea eg, wd_Tok cs (re 0) rt ot tf_45 ta tg, wd_Prg cs (re 2) rp (fun k => if k = 2 then of else none) fp47 (fun _ _ => 0) (fun _ _ => none), [((rp 1), .inl (cs 0, cn, .inl cd48))], P, wd_Opd cs hx (fun _ => 0) (fun k => if k = 4 then ox else none) (upd fx_45 1 3) (fun _ _ => 0) (fun _ _ => none)] := hw.sub [0, 1, 4, 5, 2, 3] rfl rfl
        exact px_vret S hr hlk hAe hw (Nat.le_of_ble_eq_true rfl) (Nat.le_of_ble_eq_true rfl) (⟨tf_45, fp47, cd48, (upd fx_45 1 3), rfl, (show CurOk (tf_45 10) (tf_45 13) (tf_45 14) (tf_45 15) (tf_45 17) (ta 0) from ⟨⟨by first | exact o1 | omega, by first | exact o2 | omega⟩, ⟨by first | exact o3 | omega, by first | exact o4 | omega⟩, ⟨by first | exact o5 | omega, by first | exact o6 | omega⟩, by first | exact o7 | omega, by omega, last_eq hlast (rfl)⟩), (show (tf_45 10).toInt = (tf 10).toInt from by first | exact k45_0 | omega), (show (tf_45 13).toInt = (tf 13).toInt from by first | exact k45_1 | omega), (show (tf_45 14).toInt = (tf 14).toInt from by first | exact k45_2 | omega), (show (tf_45 15).toInt = (tf 15).toInt from by first | exact k45_3 | omega), (show (fx_45 0).toInt = (fx 0).toInt from by first | exact k45_4 | omega), (show (fx_45 5).toInt = (fx 5).toInt from by first | exact k45_5 | omega), (show (fx_45 3).toInt = (fx 0).toInt from by first | exact k45_6 | omega), (show Prel cn (fp 3) cd (fp47 3) cd48 from hrel), (show (fp47 3).toInt ≤ (fp 3).toInt + 4 from by first | exact oz_3980c4833a k45_8 hsl_fp47 | omega)⟩) d_Exp_conclude_130
  refine lv_aload_n S.x S.b d_Exp_conclude_0 rfl (lv_at hl 1 rfl) ?_
  refine lv_aload_n S.x S.b d_Exp_conclude_1 rfl (lv_at hl 1 rfl) ?_
  refine px_get S k_Opd hT hw 5 0 0 (v := .int (fx 0)) rfl rfl rfl (by decide) m4_218 d_Exp_conclude_2 ?_
  refine px_put S k_Opd hT hw 5 0 3 rfl rfl (by decide) m4_225 rfl rfl rfl (Nat.le_of_ble_eq_true rfl) d_Exp_conclude_5 (w' := wd_Opd cs hx (fun _ => 0) (fun k => if k = 4 then ox else none) (upd fx 3 (fx 0)) (fun _ _ => 0) (fun _ _ => none)) (ps' := [wd_Exp cs he re eo ef ea eg, wd_Tok cs (re 0) rt ot tf ta tg, wd_Prg cs (re 2) rp (fun k => if k = 2 then of else none) fp (fun _ _ => 0) (fun _ _ => none), [((rp 1), .inl (cs 0, cn, .inl cd))], P, wd_Opd cs hx (fun _ => 0) (fun k => if k = 4 then ox else none) (upd fx 3 (fx 0)) (fun _ _ => 0) (fun _ _ => none)]) rfl rfl (fun H locs hw => ?_)
  refine lv_aload_n S.x S.b d_Exp_conclude_8 rfl (lv_at hl 2 rfl) ?_
  refine lv_ifnonnull (tgt := 25) S.x S.b d_Exp_conclude_9 (by decide) ?_
  refine lv_iload_n S.x S.b d_Exp_conclude_25 rfl (lv_at hl 3 rfl) ?_
  refine lv_aload_n S.x S.b d_Exp_conclude_26 rfl (lv_at hl 2 rfl) ?_
  refine px_get S k_Sym hT hw 4 jf 4 (v := .int (sf 4)) rfl hjf rfl (by decide) m1_219 d_Exp_conclude_27 ?_
  refine lv_icmp_eq (tgt := 45) S.x S.b d_Exp_conclude_30 (by decide) (fun c52 => ?_) (fun c52 => ?_)
  · have nc52 : p0.toInt = (sf 4).toInt := (i_eq (x := p0) (y := (sf 4))).mp c52
    exact J45 tf fp cd (upd fx 3 (fx 0)) _ _ ls (show CurOk (tf 10) (tf 13) (tf 14) (tf 15) (tf 17) (ta 0) from ⟨⟨by first | exact o1 | omega, by first | exact o2 | omega⟩, ⟨by first | exact o3 | omega, by first | exact o4 | omega⟩, ⟨by first | exact o5 | omega, by first | exact o6 | omega⟩, by first | exact o7 | omega, by omega, last_eq hlast (rfl)⟩) (show (tf 10).toInt = (tf 10).toInt from rfl) (show (tf 13).toInt = (tf 13).toInt from rfl) (show (tf 14).toInt = (tf 14).toInt from rfl) (show (tf 15).toInt = (tf 15).toInt from rfl) (show (fx 0).toInt = (fx 0).toInt from rfl) (show (fx 5).toInt = (fx 5).toInt from rfl) (show (fx 0).toInt = (fx 0).toInt from rfl) (show Prel cn (fp 3) cd (fp 3) cd from hrel) (show (fp 3).toInt = (fp 3).toInt from rfl) hw (lv_sub hl [0, 1, 2, 3] rfl)
  · have nc52 : ¬ p0.toInt = (sf 4).toInt := mt (i_eq (x := p0) (y := (sf 4))).mpr c52
    refine lv_aload_n S.x S.b d_Exp_conclude_33 rfl (lv_at hl 0 rfl) ?_
    refine px_get S k_Exp hT hw 0 0 0 (v := .ref (re 0)) rfl rfl rfl (by decide) m2_131 d_Exp_conclude_34 ?_
    refine lv_iconst (v := 4) S.x S.b d_Exp_conclude_37 (by decide) ?_
    refine lv_aload_n S.x S.b d_Exp_conclude_38 rfl (lv_at hl 1 rfl) ?_
    refine px_get S k_Opd hT hw 5 0 0 (v := .int (fx 0)) rfl rfl rfl (by decide) m4_218 d_Exp_conclude_39 ?_
    have hw : pw D A s.heap _ _ [wd_Exp cs he re eo ef ea eg, wd_Prg cs (re 2) rp (fun k => if k = 2 then of else none) fp (fun _ _ => 0) (fun _ _ => none), [((rp 1), .inl (cs 0, cn, .inl cd))], P, wd_Opd cs hx (fun _ => 0) (fun k => if k = 4 then ox else none) (upd fx 3 (fx 0)) (fun _ _ => 0) (fun _ _ => none), wd_Tok cs (re 0) rt ot tf ta tg] := hw.sub [0, 2, 3, 4, 5, 1] rfl rfl
    refine px_callv (pr := [wd_Exp cs he re eo ef ea eg, wd_Prg cs (re 2) rp (fun k => if k = 2 then of else none) fp (fun _ _ => 0) (fun _ _ => none), [((rp 1), .inl (cs 0, cn, .inl cd))], P, wd_Opd cs hx (fun _ => 0) (fun k => if k = 4 then ox else none) (upd fx 3 (fx 0)) (fun _ _ => 0) (fun _ _ => none)]) (px_runV (As := [.int 4, .int (fx 0)]) (rest := []) S (c_tk_blame l D cs (re 0) rt ot ta tg tf 4 (fx 0)  (show CurOk (tf 10) (tf 13) (tf 14) (tf 15) (tf 17) (ta 0) from ⟨⟨by first | exact o1 | omega, by first | exact o2 | omega⟩, ⟨by first | exact o3 | omega, by first | exact o4 | omega⟩, ⟨by first | exact o5 | omega, by first | exact o6 | omega⟩, by first | exact o7 | omega, by omega, last_eq hlast (rfl)⟩) (show 0 ≤ (fx 0).toInt from by first | exact g2 | omega) _) hT (pr := [wd_Exp cs he re eo ef ea eg, wd_Prg cs (re 2) rp (fun k => if k = 2 then of else none) fp (fun _ _ => 0) (fun _ _ => none), [((rp 1), .inl (cs 0, cn, .inl cd))], P, wd_Opd cs hx (fun _ => 0) (fun k => if k = 4 then ox else none) (upd fx 3 (fx 0)) (fun _ _ => 0) (fun _ _ => none)]) (pcs := [wd_Tok cs (re 0) rt ot tf ta tg]) hw px_X.tt (px_recv hT hw 5 0 rfl rfl rfl) m4_173 m4_170 m4_171 m4_172 m1_2 q_Tok_blame ⟨Nat.le_of_ble_eq_true rfl, Nat.le_of_ble_eq_true rfl⟩ hl.1 rfl (Nat.le_of_ble_eq_true rfl) d_Exp_conclude_42 ⟨Nat.le_of_ble_eq_true rfl, Nat.le_of_ble_eq_true rfl⟩) hw hA (fun p54 H locs hp54 hw => ?_)
    obtain ⟨tf53, rfl, h60, e56, e57, e58, e59⟩ := hp54
    obtain ⟨⟨o1, o2⟩, ⟨o3, o4⟩, ⟨o5, o6⟩, o7, o8, hlast⟩ := h60
    replace e56 : (tf53 10).toInt = (tf 10).toInt := e56
    replace e57 : (tf53 14).toInt = (tf 14).toInt := e57
    replace e58 : (tf53 15).toInt = (tf 15).toInt := e58
    replace e59 : (tf53 13).toInt = (tf 13).toInt := e59
    replace hw : pw D A s.heap H locs [wd_Exp cs he re eo ef ea eg, wd_Prg cs (re 2) rp (fun k => if k = 2 then of else none) fp (fun _ _ => 0) (fun _ _ => none), [((rp 1), .inl (cs 0, cn, .inl cd))], P, wd_Opd cs hx (fun _ => 0) (fun k => if k = 4 then ox else none) (upd fx 3 (fx 0)) (fun _ _ => 0) (fun _ _ => none), wd_Tok cs (re 0) rt ot tf53 ta tg] := hw
    have hw : pw D A s.heap _ _ [wd_Exp cs he re eo ef ea eg, wd_Tok cs (re 0) rt ot tf53 ta tg, wd_Prg cs (re 2) rp (fun k => if k = 2 then of else none) fp (fun _ _ => 0) (fun _ _ => none), [((rp 1), .inl (cs 0, cn, .inl cd))], P, wd_Opd cs hx (fun _ => 0) (fun k => if k = 4 then ox else none) (upd fx 3 (fx 0)) (fun _ _ => 0) (fun _ _ => none)] := hw.sub [0, 5, 1, 2, 3, 4] rfl rfl
    exact J45 tf53 fp cd (upd fx 3 (fx 0)) _ _ ls (show CurOk (tf53 10) (tf53 13) (tf53 14) (tf53 15) (tf53 17) (ta 0) from ⟨⟨by first | exact o1 | omega, by first | exact o2 | omega⟩, ⟨by first | exact o3 | omega, by first | exact o4 | omega⟩, ⟨by first | exact o5 | omega, by first | exact o6 | omega⟩, by first | exact o7 | omega, by omega, last_eq hlast (rfl)⟩) (show (tf53 10).toInt = (tf 10).toInt from by first | exact e56 | omega) (show (tf53 13).toInt = (tf 13).toInt from by first | exact e59 | omega) (show (tf53 14).toInt = (tf 14).toInt from by first | exact e57 | omega) (show (tf53 15).toInt = (tf 15).toInt from by first | exact e58 | omega) (show (fx 0).toInt = (fx 0).toInt from rfl) (show (fx 5).toInt = (fx 5).toInt from rfl) (show (fx 0).toInt = (fx 0).toInt from rfl) (show Prel cn (fp 3) cd (fp 3) cd from hrel) (show (fp 3).toInt = (fp 3).toInt from rfl) hw (lv_sub hl [0, 1, 2, 3] rfl)
set_option maxHeartbeats 4000000 in
set_option maxRecDepth 100000 in
theorem c_ex_conclude (l : Launch) (D : va_G) (cs : Nat → ClassId) (he : Nat) (re : Nat → Nat) (eo : Nat → Option Nat) (ef : Nat → Int32) (ea : Nat → Nat → Int32) (eg : Nat → Nat → Option Nat) (rt : Nat → Nat) (ot : Nat → Option Nat) (ta : Nat → Nat → Int32) (tg : Nat → Nat → Option Nat) (tf : Nat → Int32) (rp : Nat → Nat) (of : Option Nat) (cn : Nat) (fp : Nat → Int32) (cd : Nat → Int32) (P : va_W) (hx : Nat) (ox : Option Nat) (fx : Nat → Int32) (p0 : Int32) (fo : Option Nat) (hinv0 : CurOk (tf 10) (tf 13) (tf 14) (tf 15) (tf 17) (ta 0)) (g0 : cn % 4 = 0) (g1 : cn ≤ 100000) (g2 : 0 ≤ (fx 0).toInt) (hpk : Pok cn (fp 3) cd) (hsy : Fy P fo) : MetV l y_Exp_conclude b_Exp_conclude 5 D cs 1 40 (0) (0) [.ref he, .ref hx, va_rf fo, .int p0] [wd_Exp cs he re eo ef ea eg, wd_Tok cs (re 0) rt ot tf ta tg, wd_Prg cs (re 2) rp (fun k => if k = 2 then of else none) fp (fun _ _ => 0) (fun _ _ => none), [((rp 1), .inl (cs 0, cn, .inl cd))], P, wd_Opd cs hx (fun _ => 0) (fun k => if k = 4 then ox else none) fx (fun _ _ => 0) (fun _ _ => none)] (fun _ => True) (fun ps => ∃ (tf' : Nat → Int32) (fp' : Nat → Int32) (cd' : Nat → Int32) (fx' : Nat → Int32), (ps = [wd_Exp cs he re eo ef ea eg, wd_Tok cs (re 0) rt ot tf' ta tg, wd_Prg cs (re 2) rp (fun k => if k = 2 then of else none) fp' (fun _ _ => 0) (fun _ _ => none), [((rp 1), .inl (cs 0, cn, .inl cd'))], P, wd_Opd cs hx (fun _ => 0) (fun k => if k = 4 then ox else none) fx' (fun _ _ => 0) (fun _ _ => none)]) ∧ (CurOk (tf' 10) (tf' 13) (tf' 14) (tf' 15) (tf' 17) (ta 0)) ∧ ((tf' 10).toInt = (tf 10).toInt) ∧ ((tf' 13).toInt = (tf 13).toInt) ∧ ((tf' 14).toInt = (tf 14).toInt) ∧ ((tf' 15).toInt = (tf 15).toInt) ∧ ((fx' 0).toInt = (fx 0).toInt) ∧ ((fx' 5).toInt = (fx 5).toInt) ∧ ((fx' 3).toInt = (fx 0).toInt) ∧ (Prel cn (fp 3) cd (fp' 3) cd') ∧ ((fp' 3).toInt ≤ (fp 3).toInt + 4)) := by
  cases fo with
  | none => exact c_ex_conclude_n l D cs he re eo ef ea eg rt ot ta tg tf rp of cn fp cd P hx ox fx p0 hinv0 g0 g1 g2 hpk
  | some fa => exact c_ex_conclude_r l D cs he re eo ef ea eg rt ot ta tg tf rp of cn fp cd P hx ox fx p0 fa hinv0 g0 g1 g2 hpk hsy
abbrev b_Exp_drop : ByteArray := prog_3_method_6_code
def y_Exp_drop : MethodName := ⟨"HomeSystem$Expressions", "drop", "(LHomeSystem$Operand;)V"⟩
theorem d_Exp_drop_0 : decode b_Exp_drop 0 = .ok (.aload_n 1, 1) := by decide +kernel
theorem d_Exp_drop_1 : decode b_Exp_drop 1 = .ok (.getfield 79, 3) := by decide +kernel
theorem d_Exp_drop_4 : decode b_Exp_drop 4 = .ok (.iconst 3, 1) := by decide +kernel
theorem d_Exp_drop_5 : decode b_Exp_drop 5 = .ok (.if_icmp .eq 8, 3) := by decide +kernel
theorem d_Exp_drop_8 : decode b_Exp_drop 8 = .ok (.aload_n 0, 1) := by decide +kernel
theorem d_Exp_drop_9 : decode b_Exp_drop 9 = .ok (.aload_n 1, 1) := by decide +kernel
theorem d_Exp_drop_10 : decode b_Exp_drop 10 = .ok (.invokevirtual 51, 3) := by decide +kernel
theorem d_Exp_drop_13 : decode b_Exp_drop 13 = .ok (.aload_n 0, 1) := by decide +kernel
theorem d_Exp_drop_14 : decode b_Exp_drop 14 = .ok (.getfield 19, 3) := by decide +kernel
theorem d_Exp_drop_17 : decode b_Exp_drop 17 = .ok (.bipush 6, 2) := by decide +kernel
theorem d_Exp_drop_19 : decode b_Exp_drop 19 = .ok (.iconst 0, 1) := by decide +kernel
theorem d_Exp_drop_20 : decode b_Exp_drop 20 = .ok (.iconst 0, 1) := by decide +kernel
theorem d_Exp_drop_21 : decode b_Exp_drop 21 = .ok (.iconst 0, 1) := by decide +kernel
theorem d_Exp_drop_22 : decode b_Exp_drop 22 = .ok (.invokevirtual 106, 3) := by decide +kernel
theorem d_Exp_drop_25 : decode b_Exp_drop 25 = .ok (.pop, 1) := by decide +kernel
theorem d_Exp_drop_26 : decode b_Exp_drop 26 = .ok (.return_, 1) := by decide +kernel
theorem q_Exp_drop : px_y y_Exp_drop 1 := by unfold px_y; decide +kernel
set_option maxHeartbeats 4000000 in
set_option maxRecDepth 100000 in
theorem c_ex_drop (l : Launch) (D : va_G) (cs : Nat → ClassId) (he : Nat) (re : Nat → Nat) (eo : Nat → Option Nat) (ef : Nat → Int32) (ea : Nat → Nat → Int32) (eg : Nat → Nat → Option Nat) (rt : Nat → Nat) (ot : Nat → Option Nat) (ta : Nat → Nat → Int32) (tg : Nat → Nat → Option Nat) (tf : Nat → Int32) (rp : Nat → Nat) (of : Option Nat) (cn : Nat) (fp : Nat → Int32) (cd : Nat → Int32) (P : va_W) (hx : Nat) (ox : Option Nat) (fx : Nat → Int32)  (hinv0 : CurOk (tf 10) (tf 13) (tf 14) (tf 15) (tf 17) (ta 0)) (g0 : cn % 4 = 0) (g1 : cn ≤ 100000) (g2 : 0 ≤ (fx 0).toInt) (g3 : 0 ≤ (fx 3).toInt) (hpk : Pok cn (fp 3) cd) (hsx : Sy P ox) : MetV l y_Exp_drop b_Exp_drop 2 D cs 2 80 (0) (0) [.ref he, .ref hx] [wd_Exp cs he re eo ef ea eg, wd_Tok cs (re 0) rt ot tf ta tg, wd_Prg cs (re 2) rp (fun k => if k = 2 then of else none) fp (fun _ _ => 0) (fun _ _ => none), [((rp 1), .inl (cs 0, cn, .inl cd))], P, wd_Opd cs hx (fun _ => 0) (fun k => if k = 4 then ox else none) fx (fun _ _ => 0) (fun _ _ => none)] (fun _ => True) (fun ps => ∃ (tf' : Nat → Int32) (fp' : Nat → Int32) (cd' : Nat → Int32) (fx' : Nat → Int32), (ps = [wd_Exp cs he re eo ef ea eg, wd_Tok cs (re 0) rt ot tf' ta tg, wd_Prg cs (re 2) rp (fun k => if k = 2 then of else none) fp' (fun _ _ => 0) (fun _ _ => none), [((rp 1), .inl (cs 0, cn, .inl cd'))], P, wd_Opd cs hx (fun _ => 0) (fun k => if k = 4 then ox else none) fx' (fun _ _ => 0) (fun _ _ => none)]) ∧ (CurOk (tf' 10) (tf' 13) (tf' 14) (tf' 15) (tf' 17) (ta 0)) ∧ ((tf' 10).toInt = (tf 10).toInt) ∧ ((tf' 13).toInt = (tf 13).toInt) ∧ ((tf' 14).toInt = (tf 14).toInt) ∧ ((tf' 15).toInt = (tf 15).toInt) ∧ ((fx' 0).toInt = (fx 0).toInt) ∧ ((fx' 3).toInt = (fx 3).toInt) ∧ ((fx' 5).toInt = (fx 5).toInt) ∧ (Prel cn (fp 3) cd (fp' 3) cd') ∧ ((fp' 3).toInt ≤ (fp 3).toInt + 8)) := by
  refine px_enter (by decide) (Nat.le_of_ble_eq_true rfl) ?_
  intro p e s m below meth c A ls hAe S hr hlk hnm hA hT hX hw hl
  replace hl : lv_has ls 2 [(0, .ref he), (1, .ref hx)] := hl
  have cst0 : (0 : Int32).toInt = 0 := rfl
  have cst3 : (3 : Int32).toInt = 3 := rfl
  have cst6 : (6 : Int32).toInt = 6 := rfl
  obtain ⟨⟨o1, o2⟩, ⟨o3, o4⟩, ⟨o5, o6⟩, o7, o8, hlast⟩ := hinv0
  have hrel := Prel.rf hpk
  have pz0 := hrel.nm
  refine lv_aload_n S.x S.b d_Exp_drop_0 rfl (lv_at hl 1 rfl) ?_
  refine px_get S k_Opd hT hw 5 0 1 (v := .int (fx 1)) rfl rfl rfl (by decide) m4_221 d_Exp_drop_1 ?_
  refine lv_iconst (v := 3) S.x S.b d_Exp_drop_4 (by decide) ?_
  refine lv_icmp_eq (tgt := 13) S.x S.b d_Exp_drop_5 (by decide) (fun c1 => ?_) (fun c1 => ?_)
  · have nc1 : (fx 1).toInt = (3 : Int) := (i_eq (x := (fx 1)) (y := 3)).mp c1
    refine lv_aload_n S.x S.b d_Exp_drop_13 rfl (lv_at hl 0 rfl) ?_
    refine px_get S k_Exp hT hw 0 0 2 (v := .ref (re 2)) rfl rfl rfl (by decide) m2_133 d_Exp_drop_14 ?_
    refine lv_bipush (v := 6) S.x S.b d_Exp_drop_17 (by decide) ?_
    refine lv_iconst (v := 0) S.x S.b d_Exp_drop_19 (by decide) ?_
    refine lv_iconst (v := 0) S.x S.b d_Exp_drop_20 (by decide) ?_
    refine lv_iconst (v := 0) S.x S.b d_Exp_drop_21 (by decide) ?_
    have hw : pw D A s.heap _ _ [wd_Exp cs he re eo ef ea eg, wd_Tok cs (re 0) rt ot tf ta tg, P, wd_Opd cs hx (fun _ => 0) (fun k => if k = 4 then ox else none) fx (fun _ _ => 0) (fun _ _ => none), wd_Prg cs (re 2) rp (fun k => if k = 2 then of else none) fp (fun _ _ => 0) (fun _ _ => none), [((rp 1), .inl (cs 0, cn, .inl cd))]] := hw.sub [0, 1, 4, 5, 2, 3] rfl rfl
    refine px_calli (pr := [wd_Exp cs he re eo ef ea eg, wd_Tok cs (re 0) rt ot tf ta tg, P, wd_Opd cs hx (fun _ => 0) (fun k => if k = 4 then ox else none) fx (fun _ _ => 0) (fun _ _ => none)]) (px_runV (As := [.int 6, .int 0, .int 0, .int 0]) (rest := []) S (c_pe_emit l D cs (re 2) rp of cn fp cd 6 0 0 0  (show cn % 4 = 0 from by first | exact g0 | omega) (show cn ≤ 100000 from by first | exact g1 | omega) hrel.1 (jop_low (by decide)) _) hT (pr := [wd_Exp cs he re eo ef ea eg, wd_Tok cs (re 0) rt ot tf ta tg, P, wd_Opd cs hx (fun _ => 0) (fun k => if k = 4 then ox else none) fx (fun _ _ => 0) (fun _ _ => none)]) (pcs := [wd_Prg cs (re 2) rp (fun k => if k = 2 then of else none) fp (fun _ _ => 0) (fun _ _ => none), [((rp 1), .inl (cs 0, cn, .inl cd))]]) hw px_X.tt (px_recv hT hw 4 0 rfl rfl rfl) m4_181 m4_178 m4_179 m4_180 m1_16 q_Prg_emit ⟨Nat.le_of_ble_eq_true rfl, Nat.le_of_ble_eq_true rfl⟩ hl.1 rfl (Nat.le_of_ble_eq_true rfl) d_Exp_drop_22 ⟨Nat.le_of_ble_eq_true rfl, Nat.le_of_ble_eq_true rfl⟩) hw hA (fun v7 p6 H locs hp6 hw => ?_)
    obtain ⟨fp4, cd5, rfl, hv_v7, hem, hwx, hsz, k0fp4, k4fp4, k5fp4⟩ := hp6
    have tv_v7 : v7.toInt = (fp 3).toInt := by rw [hv_v7]
    have hrel := hrel.tr hem
    have pz8 := hrel.nm
    have hsl_fp4 : (fp4 3).toInt ≤ (fp 3).toInt + 4 := by omega
    clear hsz
    replace hw : pw D A s.heap H locs [wd_Exp cs he re eo ef ea eg, wd_Tok cs (re 0) rt ot tf ta tg, P, wd_Opd cs hx (fun _ => 0) (fun k => if k = 4 then ox else none) fx (fun _ _ => 0) (fun _ _ => none), wd_Prg cs (re 2) rp (fun k => if k = 2 then of else none) fp4 (fun _ _ => 0) (fun _ _ => none), [((rp 1), .inl (cs 0, cn, .inl cd5))]] := hw
    have lv7 := Int32.le_toInt v7
    have uv7 := Int32.toInt_lt v7
    refine lv_pop S.x S.b d_Exp_drop_25 rfl ?_
    have hw : pw D A s.heap _ _ [wd_Exp cs he re eo ef ea eg, wd_Tok cs (re 0) rt ot tf ta tg, wd_Prg cs (re 2) rp (fun k => if k = 2 then of else none) fp4 (fun _ _ => 0) (fun _ _ => none), [((rp 1), .inl (cs 0, cn, .inl cd5))], P, wd_Opd cs hx (fun _ => 0) (fun k => if k = 4 then ox else none) fx (fun _ _ => 0) (fun _ _ => none)] := hw.sub [0, 1, 4, 5, 2, 3] rfl rfl
    exact px_vret S hr hlk hAe hw (Nat.le_of_ble_eq_true rfl) (Nat.le_of_ble_eq_true rfl) (⟨tf, fp4, cd5, fx, rfl, (show CurOk (tf 10) (tf 13) (tf 14) (tf 15) (tf 17) (ta 0) from ⟨⟨by first | exact o1 | omega, by first | exact o2 | omega⟩, ⟨by first | exact o3 | omega, by first | exact o4 | omega⟩, ⟨by first | exact o5 | omega, by first | exact o6 | omega⟩, by first | exact o7 | omega, by omega, last_eq hlast (rfl)⟩), (show (tf 10).toInt = (tf 10).toInt from rfl), (show (tf 13).toInt = (tf 13).toInt from rfl), (show (tf 14).toInt = (tf 14).toInt from rfl), (show (tf 15).toInt = (tf 15).toInt from rfl), (show (fx 0).toInt = (fx 0).toInt from rfl), (show (fx 3).toInt = (fx 3).toInt from rfl), (show (fx 5).toInt = (fx 5).toInt from rfl), (show Prel cn (fp 3) cd (fp4 3) cd5 from hrel), (show (fp4 3).toInt ≤ (fp 3).toInt + 8 from by first | exact oz_26f57824b4 hsl_fp4 | omega)⟩) d_Exp_drop_26
  · have nc1 : ¬ (fx 1).toInt = (3 : Int) := mt (i_eq (x := (fx 1)) (y := 3)).mpr c1
    refine lv_aload_n S.x S.b d_Exp_drop_8 rfl (lv_at hl 0 rfl) ?_
    refine lv_aload_n S.x S.b d_Exp_drop_9 rfl (lv_at hl 1 rfl) ?_
    refine px_callv (pr := []) (px_runV (As := [.ref hx]) (rest := []) S (c_ex_number l D cs he re eo ef ea eg rt ot ta tg tf rp of cn fp cd P hx ox fx   (show CurOk (tf 10) (tf 13) (tf 14) (tf 15) (tf 17) (ta 0) from ⟨⟨by first | exact o1 | omega, by first | exact o2 | omega⟩, ⟨by first | exact o3 | omega, by first | exact o4 | omega⟩, ⟨by first | exact o5 | omega, by first | exact o6 | omega⟩, by first | exact o7 | omega, by omega, last_eq hlast (rfl)⟩) (show cn % 4 = 0 from by first | exact g0 | omega) (show cn ≤ 100000 from by first | exact g1 | omega) (show 0 ≤ (fx 0).toInt from by first | exact g2 | omega) (show 0 ≤ (fx 3).toInt from by first | exact g3 | omega) hrel.1 (by first | assumption | exact sy_none | exact fy_none | exact Fy.sy (by assumption) | exact sy_some (by assumption)) _) hT (pr := []) (pcs := [wd_Exp cs he re eo ef ea eg, wd_Tok cs (re 0) rt ot tf ta tg, wd_Prg cs (re 2) rp (fun k => if k = 2 then of else none) fp (fun _ _ => 0) (fun _ _ => none), [((rp 1), .inl (cs 0, cn, .inl cd))], P, wd_Opd cs hx (fun _ => 0) (fun k => if k = 4 then ox else none) fx (fun _ _ => 0) (fun _ _ => none)]) hw px_X.tt (px_recv hT hw 0 0 rfl rfl rfl) m4_189 m4_186 m4_187 m4_188 m1_17 q_Exp_number ⟨Nat.le_of_ble_eq_true rfl, Nat.le_of_ble_eq_true rfl⟩ hl.1 rfl (Nat.le_of_ble_eq_true rfl) d_Exp_drop_10 ⟨Nat.le_of_ble_eq_true rfl, Nat.le_of_ble_eq_true rfl⟩) hw hA (fun p17 H locs hp17 hw => ?_)
    obtain ⟨tf13, fp14, cd15, fx16, rfl, h28, e19, e20, e21, e22, e23, e24, e25, e26, e27⟩ := hp17
    obtain ⟨⟨o1, o2⟩, ⟨o3, o4⟩, ⟨o5, o6⟩, o7, o8, hlast⟩ := h28
    replace e19 : (tf13 10).toInt = (tf 10).toInt := e19
    replace e20 : (tf13 13).toInt = (tf 13).toInt := e20
    replace e21 : (tf13 14).toInt = (tf 14).toInt := e21
    replace e22 : (tf13 15).toInt = (tf 15).toInt := e22
    replace e23 : (fx16 0).toInt = (fx 0).toInt := e23
    replace e24 : (fx16 3).toInt = (fx 3).toInt := e24
    replace e25 : (fx16 5).toInt = (fx 5).toInt := e25
    replace e26 : Prel cn (fp 3) cd (fp14 3) cd15 := e26
    have hrel := hrel.tr e26
    have pz29 := hrel.nm
    replace e27 : (fp14 3).toInt ≤ (fp 3).toInt + 4 := e27
    replace hw : pw D A s.heap H locs [wd_Exp cs he re eo ef ea eg, wd_Tok cs (re 0) rt ot tf13 ta tg, wd_Prg cs (re 2) rp (fun k => if k = 2 then of else none) fp14 (fun _ _ => 0) (fun _ _ => none), [((rp 1), .inl (cs 0, cn, .inl cd15))], P, wd_Opd cs hx (fun _ => 0) (fun k => if k = 4 then ox else none) fx16 (fun _ _ => 0) (fun _ _ => none)] := hw
    refine lv_aload_n S.x S.b d_Exp_drop_13 rfl (lv_at hl 0 rfl) ?_
    refine px_get S k_Exp hT hw 0 0 2 (v := .ref (re 2)) rfl rfl rfl (by decide) m2_133 d_Exp_drop_14 ?_
    refine lv_bipush (v := 6) S.x S.b d_Exp_drop_17 (by decide) ?_
    refine lv_iconst (v := 0) S.x S.b d_Exp_drop_19 (by decide) ?_
    refine lv_iconst (v := 0) S.x S.b d_Exp_drop_20 (by decide) ?_
    refine lv_iconst (v := 0) S.x S.b d_Exp_drop_21 (by decide) ?_
    have hw : pw D A s.heap _ _ [wd_Exp cs he re eo ef ea eg, wd_Tok cs (re 0) rt ot tf13 ta tg, P, wd_Opd cs hx (fun _ => 0) (fun k => if k = 4 then ox else none) fx16 (fun _ _ => 0) (fun _ _ => none), wd_Prg cs (re 2) rp (fun k => if k = 2 then of else none) fp14 (fun _ _ => 0) (fun _ _ => none), [((rp 1), .inl (cs 0, cn, .inl cd15))]] := hw.sub [0, 1, 4, 5, 2, 3] rfl rfl
    refine px_calli (pr := [wd_Exp cs he re eo ef ea eg, wd_Tok cs (re 0) rt ot tf13 ta tg, P, wd_Opd cs hx (fun _ => 0) (fun k => if k = 4 then ox else none) fx16 (fun _ _ => 0) (fun _ _ => none)]) (px_runV (As := [.int 6, .int 0, .int 0, .int 0]) (rest := []) S (c_pe_emit l D cs (re 2) rp of cn fp14 cd15 6 0 0 0  (show cn % 4 = 0 from by first | exact g0 | omega) (show cn ≤ 100000 from by first | exact g1 | omega) hrel.1 (jop_low (by decide)) _) hT (pr := [wd_Exp cs he re eo ef ea eg, wd_Tok cs (re 0) rt ot tf13 ta tg, P, wd_Opd cs hx (fun _ => 0) (fun k => if k = 4 then ox else none) fx16 (fun _ _ => 0) (fun _ _ => none)]) (pcs := [wd_Prg cs (re 2) rp (fun k => if k = 2 then of else none) fp14 (fun _ _ => 0) (fun _ _ => none), [((rp 1), .inl (cs 0, cn, .inl cd15))]]) hw px_X.tt (px_recv hT hw 4 0 rfl rfl rfl) m4_181 m4_178 m4_179 m4_180 m1_16 q_Prg_emit ⟨Nat.le_of_ble_eq_true rfl, Nat.le_of_ble_eq_true rfl⟩ hl.1 rfl (Nat.le_of_ble_eq_true rfl) d_Exp_drop_22 ⟨Nat.le_of_ble_eq_true rfl, Nat.le_of_ble_eq_true rfl⟩) hw hA (fun v35 p34 H locs hp34 hw => ?_)
    obtain ⟨fp32, cd33, rfl, hv_v35, hem, hwx, hsz, k0fp32, k4fp32, k5fp32⟩ := hp34
    have tv_v35 : v35.toInt = (fp14 3).toInt := by rw [hv_v35]
    have hrel := hrel.tr hem
    have pz36 := hrel.nm
    have hsl_fp32 : (fp32 3).toInt ≤ (fp14 3).toInt + 4 := by omega
    clear hsz
    replace hw : pw D A s.heap H locs [wd_Exp cs he re eo ef ea eg, wd_Tok cs (re 0) rt ot tf13 ta tg, P, wd_Opd cs hx (fun _ => 0) (fun k => if k = 4 then ox else none) fx16 (fun _ _ => 0) (fun _ _ => none), wd_Prg cs (re 2) rp (fun k => if k = 2 then of else none) fp32 (fun _ _ => 0) (fun _ _ => none), [((rp 1), .inl (cs 0, cn, .inl cd33))]] := hw
    have lv35 := Int32.le_toInt v35
    have uv35 := Int32.toInt_lt v35
    refine lv_pop S.x S.b d_Exp_drop_25 rfl ?_
    have hw : pw D A s.heap _ _ [wd_Exp cs he re eo ef ea eg, wd_Tok cs (re 0) rt ot tf13 ta tg, wd_Prg cs (re 2) rp (fun k => if k = 2 then of else none) fp32 (fun _ _ => 0) (fun _ _ => none), [((rp 1), .inl (cs 0, cn, .inl cd33))], P, wd_Opd cs hx (fun _ => 0) (fun k => if k = 4 then ox else none) fx16 (fun _ _ => 0) (fun _ _ => none)] := hw.sub [0, 1, 4, 5, 2, 3] rfl rfl
    exact px_vret S hr hlk hAe hw (Nat.le_of_ble_eq_true rfl) (Nat.le_of_ble_eq_true rfl) (⟨tf13, fp32, cd33, fx16, rfl, (show CurOk (tf13 10) (tf13 13) (tf13 14) (tf13 15) (tf13 17) (ta 0) from ⟨⟨by first | exact o1 | omega, by first | exact o2 | omega⟩, ⟨by first | exact o3 | omega, by first | exact o4 | omega⟩, ⟨by first | exact o5 | omega, by first | exact o6 | omega⟩, by first | exact o7 | omega, by omega, last_eq hlast (rfl)⟩), (show (tf13 10).toInt = (tf 10).toInt from by first | exact e19 | omega), (show (tf13 13).toInt = (tf 13).toInt from by first | exact e20 | omega), (show (tf13 14).toInt = (tf 14).toInt from by first | exact e21 | omega), (show (tf13 15).toInt = (tf 15).toInt from by first | exact e22 | omega), (show (fx16 0).toInt = (fx 0).toInt from by first | exact e23 | omega), (show (fx16 3).toInt = (fx 3).toInt from by first | exact e24 | omega), (show (fx16 5).toInt = (fx 5).toInt from by first | exact e25 | omega), (show Prel cn (fp 3) cd (fp32 3) cd33 from hrel), (show (fp32 3).toInt ≤ (fp 3).toInt + 8 from by first | exact oz_c42f88acc2 e27 hsl_fp32 | omega)⟩) d_Exp_drop_26
