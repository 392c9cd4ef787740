theorem oz_4550f3b49c {a0 : Int}  : a0 ≤ a0 + 4 := by omega
theorem oz_4244efe5c1 {a0 a1 a2 : Int} (h0 : a1 ≤ a0) (h1 : a1 = a2 + (1 : Int)) (h2 : 1 ≤ a2) : 1 ≤ a0 := by omega
theorem oz_290fdae571 {a0 a1 : Int} (h0 : a1 ≤ a0) (h1 : 1 ≤ a1) : 1 ≤ a0 := by omega
theorem oz_a97abccd3f {a0 a1 : Int} (h0 : a0 = a1) (h1 : 1 ≤ a1) : 1 ≤ a0 := by omega
theorem oz_82177ca36c {a0 a1 : Int} (h0 : a0 = a1) (h1 : a1 ≤ 1000000) : a0 ≤ 1000000 := by omega
theorem oz_cbf156e4b5 {a0 a1 a2 : Int} (h0 : a2 = a1) (h1 : a0 = a2 + 1) : a0 = a1 + 1 := by omega
theorem oz_3980c4833a {a0 a1 a2 : Int} (h0 : a2 = a1) (h1 : a0 ≤ a2 + 4) : a0 ≤ a1 + 4 := by omega
theorem oz_26f57824b4 {a0 a1 : Int} (h0 : a0 ≤ a1 + 4) : a0 ≤ a1 + 8 := by omega
theorem oz_c42f88acc2 {a0 a1 a2 : Int} (h0 : a2 ≤ a1 + 4) (h1 : a0 ≤ a2 + 4) : a0 ≤ a1 + 8 := by omega
theorem m4_221 : Cond.fieldLink "HomeSystem$Expressions" 79 "HomeSystem$Operand" "sort" "I" ∈ AL := AL_4 (List.mem_of_getElem? (i := 221) rfl) rfl
theorem m4_226 : Cond.fieldLink "HomeSystem$Expressions" 91 "HomeSystem$Operand" "symbol" "LHomeSystem$Symbol;" ∈ AL := AL_4 (List.mem_of_getElem? (i := 226) rfl) rfl
theorem m1_213 : Cond.fieldLink "HomeSystem$Expressions" 95 "HomeSystem$Symbol" "mode" "I" ∈ AL := AL_1 (List.mem_of_getElem? (i := 213) rfl) rfl
theorem m1_216 : Cond.fieldLink "HomeSystem$Expressions" 100 "HomeSystem$Symbol" "base" "I" ∈ AL := AL_1 (List.mem_of_getElem? (i := 216) rfl) rfl
theorem m1_219 : Cond.fieldLink "HomeSystem$Expressions" 103 "HomeSystem$Symbol" "size" "I" ∈ AL := AL_1 (List.mem_of_getElem? (i := 219) rfl) rfl
theorem m4_178 : Cond.methodLink "HomeSystem$Expressions" 106 ⟨"HomeSystem$Program", "emit", "(IIII)I"⟩ ∈ AL := AL_4 (List.mem_of_getElem? (i := 178) rfl) rfl
theorem m4_181 : Cond.code ⟨"HomeSystem$Program", "emit", "(IIII)I"⟩ prog_7_method_2_code 6 (Option.some FieldType.int) ∈ AL := AL_4 (List.mem_of_getElem? (i := 181) rfl) rfl
theorem m4_180 : Cond.selects "HomeSystem$Program" ⟨"HomeSystem$Program", "emit", "(IIII)I"⟩ ⟨"HomeSystem$Program", "emit", "(IIII)I"⟩ ∈ AL := AL_4 (List.mem_of_getElem? (i := 180) rfl) rfl
theorem m4_179 : Cond.instanceMethod ⟨"HomeSystem$Program", "emit", "(IIII)I"⟩ ∈ AL := AL_4 (List.mem_of_getElem? (i := 179) rfl) rfl
theorem m4_225 : Cond.fieldLink "HomeSystem$Expressions" 88 "HomeSystem$Operand" "call" "I" ∈ AL := AL_4 (List.mem_of_getElem? (i := 225) rfl) rfl
theorem m4_170 : Cond.methodLink "HomeSystem$Expressions" 85 ⟨"HomeSystem$Tokens", "blame", "(II)V"⟩ ∈ AL := AL_4 (List.mem_of_getElem? (i := 170) rfl) rfl
theorem m4_173 : Cond.code ⟨"HomeSystem$Tokens", "blame", "(II)V"⟩ prog_12_method_37_code 3 (Option.none : Option Jvm.ClassFile.FieldType) ∈ AL := AL_4 (List.mem_of_getElem? (i := 173) rfl) rfl
theorem m4_172 : Cond.selects "HomeSystem$Tokens" ⟨"HomeSystem$Tokens", "blame", "(II)V"⟩ ⟨"HomeSystem$Tokens", "blame", "(II)V"⟩ ∈ AL := AL_4 (List.mem_of_getElem? (i := 172) rfl) rfl
theorem m4_171 : Cond.instanceMethod ⟨"HomeSystem$Tokens", "blame", "(II)V"⟩ ∈ AL := AL_4 (List.mem_of_getElem? (i := 171) rfl) rfl
theorem m4_218 : Cond.fieldLink "HomeSystem$Expressions" 82 "HomeSystem$Operand" "first" "I" ∈ AL := AL_4 (List.mem_of_getElem? (i := 218) rfl) rfl
theorem m2_107 : Cond.fieldLink "HomeSystem$Expressions" 112 "HomeSystem$Program" "size" "I" ∈ AL := AL_2 (List.mem_of_getElem? (i := 107) rfl) rfl
theorem m5_85 : Cond.methodLink "HomeSystem$Expressions" 116 ⟨"HomeSystem$Program", "aim", "(II)V"⟩ ∈ AL := AL_5 (List.mem_of_getElem? (i := 85) rfl) rfl
theorem m5_88 : Cond.code ⟨"HomeSystem$Program", "aim", "(II)V"⟩ prog_7_method_3_code 6 (Option.none : Option Jvm.ClassFile.FieldType) ∈ AL := AL_5 (List.mem_of_getElem? (i := 88) rfl) rfl
theorem m5_87 : Cond.selects "HomeSystem$Program" ⟨"HomeSystem$Program", "aim", "(II)V"⟩ ⟨"HomeSystem$Program", "aim", "(II)V"⟩ ∈ AL := AL_5 (List.mem_of_getElem? (i := 87) rfl) rfl
theorem m5_86 : Cond.instanceMethod ⟨"HomeSystem$Program", "aim", "(II)V"⟩ ∈ AL := AL_5 (List.mem_of_getElem? (i := 86) rfl) rfl
theorem m4_223 : Cond.fieldLink "HomeSystem$Expressions" 113 "HomeSystem$Operand" "state" "I" ∈ AL := AL_4 (List.mem_of_getElem? (i := 223) rfl) rfl
theorem m4_235 : Cond.fieldLink "HomeSystem$Expressions" 123 "HomeSystem$Operand" "number" "I" ∈ AL := AL_4 (List.mem_of_getElem? (i := 235) rfl) rfl
theorem m5_92 : Cond.methodLink "HomeSystem$Expressions" 119 ⟨"HomeSystem$Expressions", "foldLogic", "(LHomeSystem$Operand;ZLHomeSystem$Operand;)V"⟩ ∈ AL := AL_5 (List.mem_of_getElem? (i := 92) rfl) rfl
theorem m5_94 : Cond.code ⟨"HomeSystem$Expressions", "foldLogic", "(LHomeSystem$Operand;ZLHomeSystem$Operand;)V"⟩ prog_3_method_11_code 3 (Option.none : Option Jvm.ClassFile.FieldType) ∈ AL := AL_5 (List.mem_of_getElem? (i := 94) rfl) rfl
theorem m1_17 : Cond.initialized "HomeSystem$Expressions" ∈ AL := AL_1 (List.mem_of_getElem? (i := 17) rfl) rfl
theorem m5_93 : Cond.static ⟨"HomeSystem$Expressions", "foldLogic", "(LHomeSystem$Operand;ZLHomeSystem$Operand;)V"⟩ ∈ AL := AL_5 (List.mem_of_getElem? (i := 93) rfl) rfl
theorem m5_98n : Cond.methodLinkNest "HomeSystem$Expressions" 129 ⟨"HomeSystem", "reckon", "(III)I"⟩ "HomeSystem" ∈ tables_1 := by unfold tables_1; exact List.mem_append_right _ (List.mem_append_right _ (List.mem_append_right _ (List.mem_append_right _ (List.mem_append_left _ (List.mem_of_getElem? (i := 98) rfl)))))
theorem m5_95n : Cond.methodLinkNest "HomeSystem$Expressions" 125 ⟨"HomeSystem", "byZero", "(II)Z"⟩ "HomeSystem" ∈ tables_1 := by unfold tables_1; exact List.mem_append_right _ (List.mem_append_right _ (List.mem_append_right _ (List.mem_append_right _ (List.mem_append_left _ (List.mem_of_getElem? (i := 95) rfl)))))
theorem m4_233 : Cond.fieldLink "HomeSystem$Expressions" 133 "HomeSystem$Operand" "rank" "I" ∈ AL := AL_4 (List.mem_of_getElem? (i := 233) rfl) rfl
theorem m4_228 : Cond.fieldLink "HomeSystem$Expressions" 41 "HomeSystem$Operand" "depth" "I" ∈ AL := AL_4 (List.mem_of_getElem? (i := 228) rfl) rfl
theorem m5_43 : Cond.methodLink "HomeSystem$Expressions" 135 ⟨"java/lang/Math", "max", "(II)I"⟩ ∈ AL := AL_5 (List.mem_of_getElem? (i := 43) rfl) rfl
theorem m4_230 : Cond.fieldLink "HomeSystem$Expressions" 141 "HomeSystem$Operand" "height" "I" ∈ AL := AL_4 (List.mem_of_getElem? (i := 230) rfl) rfl
theorem m4_182 : Cond.methodLink "HomeSystem$Expressions" 147 ⟨"HomeSystem$Operand", "become", "(I)V"⟩ ∈ AL := AL_4 (List.mem_of_getElem? (i := 182) rfl) rfl
theorem m4_185 : Cond.code ⟨"HomeSystem$Operand", "become", "(I)V"⟩ prog_6_method_2_code 2 (Option.none : Option Jvm.ClassFile.FieldType) ∈ AL := AL_4 (List.mem_of_getElem? (i := 185) rfl) rfl
theorem m1_31 : Cond.initialized "HomeSystem$Operand" ∈ AL := AL_1 (List.mem_of_getElem? (i := 31) rfl) rfl
theorem m4_184 : Cond.selects "HomeSystem$Operand" ⟨"HomeSystem$Operand", "become", "(I)V"⟩ ⟨"HomeSystem$Operand", "become", "(I)V"⟩ ∈ AL := AL_4 (List.mem_of_getElem? (i := 184) rfl) rfl
theorem m4_183 : Cond.instanceMethod ⟨"HomeSystem$Operand", "become", "(I)V"⟩ ∈ AL := AL_4 (List.mem_of_getElem? (i := 183) rfl) rfl
theorem m5_40 : Cond.methodLink "HomeSystem$Expressions" 235 ⟨"HomeSystem$Expressions", "typeOf", "(LHomeSystem$Symbol;)I"⟩ ∈ AL := AL_5 (List.mem_of_getElem? (i := 40) rfl) rfl
theorem m5_42 : Cond.code ⟨"HomeSystem$Expressions", "typeOf", "(LHomeSystem$Symbol;)I"⟩ prog_3_method_25_code 1 (Option.some FieldType.int) ∈ AL := AL_5 (List.mem_of_getElem? (i := 42) rfl) rfl
theorem m5_41 : Cond.static ⟨"HomeSystem$Expressions", "typeOf", "(LHomeSystem$Symbol;)I"⟩ ∈ AL := AL_5 (List.mem_of_getElem? (i := 41) rfl) rfl
theorem m1_226 : Cond.fieldLink "HomeSystem$Expressions" 239 "HomeSystem$Symbol" "type" "I" ∈ AL := AL_1 (List.mem_of_getElem? (i := 226) rfl) rfl
theorem m1_223 : Cond.fieldLink "HomeSystem$Expressions" 216 "HomeSystem$Symbol" "number" "I" ∈ AL := AL_1 (List.mem_of_getElem? (i := 223) rfl) rfl
theorem m4_186 : Cond.methodLink "HomeSystem$Expressions" 51 ⟨"HomeSystem$Expressions", "number", "(LHomeSystem$Operand;)V"⟩ ∈ AL := AL_4 (List.mem_of_getElem? (i := 186) rfl) rfl
theorem m4_189 : Cond.code ⟨"HomeSystem$Expressions", "number", "(LHomeSystem$Operand;)V"⟩ prog_3_method_5_code 2 (Option.none : Option Jvm.ClassFile.FieldType) ∈ AL := AL_4 (List.mem_of_getElem? (i := 189) rfl) rfl
theorem m4_188 : Cond.selects "HomeSystem$Expressions" ⟨"HomeSystem$Expressions", "number", "(LHomeSystem$Operand;)V"⟩ ⟨"HomeSystem$Expressions", "number", "(LHomeSystem$Operand;)V"⟩ ∈ AL := AL_4 (List.mem_of_getElem? (i := 188) rfl) rfl
theorem m4_187 : Cond.instanceMethod ⟨"HomeSystem$Expressions", "number", "(LHomeSystem$Operand;)V"⟩ ∈ AL := AL_4 (List.mem_of_getElem? (i := 187) rfl) rfl
/-- a 1 says that it isn't null -/
def Nn (v : Int32) (o : Option Nat) : Prop := v.toInt = 1 → ∃ a, o = some a
theorem or_shl8 (k : Int32) (x : Int32) (h : (k &&& 255) = k) : ((k ||| (x <<< ((8 : Int32) &&& 31))) &&& 255) = k := by
  rw [show ((8 : Int32) &&& 31) = 8 from by decide]
  have h1 : k.toBitVec &&& 255#32 = k.toBitVec := congrArg Int32.toBitVec h
  apply Int32.toBitVec_inj.mp
  show (k.toBitVec ||| (x.toBitVec <<< (BitVec.smod 8#32 32#32))) &&& 255#32 = k.toBitVec
  have e : BitVec.smod 8#32 32#32 = 8#32 := by decide
  rw [e]
  generalize k.toBitVec = a at h1
  generalize x.toBitVec = b
  apply BitVec.eq_of_getLsbD_eq
  intro i hi
  have h2 : (a &&& 255#32).getLsbD i = a.getLsbD i := by rw [h1]
  rw [BitVec.getLsbD_and] at h2
  rw [BitVec.getLsbD_and, BitVec.getLsbD_or]
  by_cases h8 : i < 8
  · have e1 : (b <<< 8#32).getLsbD i = false := by
      show (b <<< (8#32).toNat).getLsbD i = false
      rw [BitVec.getLsbD_shiftLeft]
      have : i < (8#32).toNat := h8
      simp only [this, decide_true, Bool.not_true, Bool.and_false, Bool.false_and]
    rw [e1, Bool.or_false]
    exact h2
  · have e2 : (255#32).getLsbD i = false := by
      apply Nat.testBit_lt_two_pow
      calc (255#32).toNat < 2 ^ 8 := by decide
        _ ≤ 2 ^ i := Nat.pow_le_pow_right (by decide) (by omega)
    rw [e2, Bool.and_false] at h2
    rw [e2, Bool.and_false]
    exact h2
set_option maxHeartbeats 4000000 in
set_option maxRecDepth 100000 in
theorem c_ex_rank (l : Launch) (D : va_G) (cs : Nat → ClassId)  (p0 : Int32)   : MetI l y_Exp_rank b_Exp_rank 1 (.int) D cs 0 0 (0) (0) [.int p0] [] (fun _ => True) (fun v ps => (ps = []) ∧ (0 ≤ v.toInt) ∧ (v.toInt ≤ 10) ∧ (1 ≤ v.toInt → 37 ≤ p0.toInt) ∧ (R_ex_rank p0 v)) := by
  refine px_enter (by decide) (Nat.le_of_ble_eq_true rfl) ?_
  intro p e s m below meth c A ls hAe S hr hlk hnm hA hT hX hw hl
  have hl : lv_has ls 1 [(0, .int p0)] := hl
  have lp0 := Int32.le_toInt p0
  have up0 := Int32.toInt_lt p0
  have cst0 : (0 : Int32).toInt = 0 := rfl
  have cst1 : (1 : Int32).toInt = 1 := rfl
  have cst2 : (2 : Int32).toInt = 2 := rfl
  have cst3 : (3 : Int32).toInt = 3 := rfl
  have cst4 : (4 : Int32).toInt = 4 := rfl
  have cst5 : (5 : Int32).toInt = 5 := rfl
  have cst6 : (6 : Int32).toInt = 6 := rfl
  have cst7 : (7 : Int32).toInt = 7 := rfl
  have cst8 : (8 : Int32).toInt = 8 := rfl
  have cst9 : (9 : Int32).toInt = 9 := rfl
  have cst10 : (10 : Int32).toInt = 10 := rfl
  refine lv_iload_n S.x S.b d_Exp_rank_0 rfl (lv_at hl 0 rfl) ?_
  refine px_lookD S (dt := 181) [37, 38, 42, 43, 45, 47, 60, 62, 94, 124, 130, 131, 132, 133, 134, 135, 136, 137] [(178, [37, 42, 47]), (164, [38]), (175, [43, 45]), (169, [60, 62, 132, 133]), (162, [94]), (160, [124]), (166, [130, 131]), (172, [134, 135]), (158, [136]), (156, [137])] d_Exp_rank_1 (by decide +kernel) (by decide) (by decide +kernel) (by decide +kernel) ?_ ?_
  · intro hdf_1
    refine lv_iconst (v := 0) S.x S.b d_Exp_rank_181 (by decide) ?_
    exact px_iret (v := 0) S hr rfl hlk hAe hw (Nat.le_of_ble_eq_true rfl) (Nat.le_of_ble_eq_true rfl) (⟨rfl, (show 0 ≤ (0 : Int) from by first | exact oz_5a341f00aa | omega), (show (0 : Int) ≤ 10 from by first | exact oz_117e7b2a6a | omega), (show 1 ≤ (0 : Int) → 37 ≤ p0.toInt from by omega), (show R_ex_rank p0 (0 : Int32) from (Or.inl (Or.inl ⟨hdf_1, rfl⟩)))⟩) d_Exp_rank_182
  · refine List.forall_mem_cons.mpr ⟨fun c2 => ?_, List.forall_mem_cons.mpr ⟨fun c2 => ?_, List.forall_mem_cons.mpr ⟨fun c2 => ?_, List.forall_mem_cons.mpr ⟨fun c2 => ?_, List.forall_mem_cons.mpr ⟨fun c2 => ?_, List.forall_mem_cons.mpr ⟨fun c2 => ?_, List.forall_mem_cons.mpr ⟨fun c2 => ?_, List.forall_mem_cons.mpr ⟨fun c2 => ?_, List.forall_mem_cons.mpr ⟨fun c2 => ?_, List.forall_mem_cons.mpr ⟨fun c2 => ?_, fun _ h => absurd h List.not_mem_nil⟩⟩⟩⟩⟩⟩⟩⟩⟩⟩
    · simp only [List.mem_cons, List.not_mem_nil, or_false] at c2
      refine lv_bipush (v := 10) S.x S.b d_Exp_rank_178 (by decide) ?_
      exact px_iret (v := 10) S hr rfl hlk hAe hw (Nat.le_of_ble_eq_true rfl) (Nat.le_of_ble_eq_true rfl) (⟨rfl, (show 0 ≤ (10 : Int) from by first | exact oz_b9672dc21f | omega), (show (10 : Int) ≤ 10 from by first | exact oz_8b73a41944 | omega), (show 1 ≤ (10 : Int) → 37 ≤ p0.toInt from by omega), (show R_ex_rank p0 (10 : Int32) from (Or.inl (Or.inr (Or.inl ⟨c2, rfl⟩))))⟩) d_Exp_rank_180
    · simp only [List.mem_cons, List.not_mem_nil, or_false] at c2
      refine lv_iconst (v := 5) S.x S.b d_Exp_rank_164 (by decide) ?_
      exact px_iret (v := 5) S hr rfl hlk hAe hw (Nat.le_of_ble_eq_true rfl) (Nat.le_of_ble_eq_true rfl) (⟨rfl, (show 0 ≤ (5 : Int) from by first | exact oz_f21dceca30 | omega), (show (5 : Int) ≤ 10 from by first | exact oz_1e2ee4b499 | omega), (show 1 ≤ (5 : Int) → 37 ≤ p0.toInt from by omega), (show R_ex_rank p0 (5 : Int32) from (Or.inl (Or.inr (Or.inr (Or.inl ⟨c2, rfl⟩)))))⟩) d_Exp_rank_165
    · simp only [List.mem_cons, List.not_mem_nil, or_false] at c2
      refine lv_bipush (v := 9) S.x S.b d_Exp_rank_175 (by decide) ?_
      exact px_iret (v := 9) S hr rfl hlk hAe hw (Nat.le_of_ble_eq_true rfl) (Nat.le_of_ble_eq_true rfl) (⟨rfl, (show 0 ≤ (9 : Int) from by first | exact oz_ef1109059f | omega), (show (9 : Int) ≤ 10 from by first | exact oz_3e940f027f | omega), (show 1 ≤ (9 : Int) → 37 ≤ p0.toInt from by omega), (show R_ex_rank p0 (9 : Int32) from (Or.inl (Or.inr (Or.inr (Or.inr (Or.inl ⟨c2, rfl⟩))))))⟩) d_Exp_rank_177
    · simp only [List.mem_cons, List.not_mem_nil, or_false] at c2
      refine lv_bipush (v := 7) S.x S.b d_Exp_rank_169 (by decide) ?_
      exact px_iret (v := 7) S hr rfl hlk hAe hw (Nat.le_of_ble_eq_true rfl) (Nat.le_of_ble_eq_true rfl) (⟨rfl, (show 0 ≤ (7 : Int) from by first | exact oz_096f6f1d83 | omega), (show (7 : Int) ≤ 10 from by first | exact oz_8cd2080322 | omega), (show 1 ≤ (7 : Int) → 37 ≤ p0.toInt from by omega), (show R_ex_rank p0 (7 : Int32) from (Or.inl (Or.inr (Or.inr (Or.inr (Or.inr (Or.inl ⟨c2, rfl⟩)))))))⟩) d_Exp_rank_171
    · simp only [List.mem_cons, List.not_mem_nil, or_false] at c2
      refine lv_iconst (v := 4) S.x S.b d_Exp_rank_162 (by decide) ?_
      exact px_iret (v := 4) S hr rfl hlk hAe hw (Nat.le_of_ble_eq_true rfl) (Nat.le_of_ble_eq_true rfl) (⟨rfl, (show 0 ≤ (4 : Int) from by first | exact oz_8aa1b7a920 | omega), (show (4 : Int) ≤ 10 from by first | exact oz_e3980d5913 | omega), (show 1 ≤ (4 : Int) → 37 ≤ p0.toInt from by omega), (show R_ex_rank p0 (4 : Int32) from (Or.inl (Or.inr (Or.inr (Or.inr (Or.inr (Or.inr (Or.inl ⟨c2, rfl⟩))))))))⟩) d_Exp_rank_163
    · simp only [List.mem_cons, List.not_mem_nil, or_false] at c2
      refine lv_iconst (v := 3) S.x S.b d_Exp_rank_160 (by decide) ?_
      exact px_iret (v := 3) S hr rfl hlk hAe hw (Nat.le_of_ble_eq_true rfl) (Nat.le_of_ble_eq_true rfl) (⟨rfl, (show 0 ≤ (3 : Int) from by first | exact oz_e98d287a2d | omega), (show (3 : Int) ≤ 10 from by first | exact oz_9d2271b33c | omega), (show 1 ≤ (3 : Int) → 37 ≤ p0.toInt from by omega), (show R_ex_rank p0 (3 : Int32) from (Or.inl (Or.inr (Or.inr (Or.inr (Or.inr (Or.inr (Or.inr (Or.inl ⟨c2, rfl⟩)))))))))⟩) d_Exp_rank_161
    · simp only [List.mem_cons, List.not_mem_nil, or_false] at c2
      refine lv_bipush (v := 6) S.x S.b d_Exp_rank_166 (by decide) ?_
      exact px_iret (v := 6) S hr rfl hlk hAe hw (Nat.le_of_ble_eq_true rfl) (Nat.le_of_ble_eq_true rfl) (⟨rfl, (show 0 ≤ (6 : Int) from by first | exact oz_7b65a14e92 | omega), (show (6 : Int) ≤ 10 from by first | exact oz_403354d009 | omega), (show 1 ≤ (6 : Int) → 37 ≤ p0.toInt from by omega), (show R_ex_rank p0 (6 : Int32) from (Or.inl (Or.inr (Or.inr (Or.inr (Or.inr (Or.inr (Or.inr (Or.inr (Or.inl ⟨c2, rfl⟩))))))))))⟩) d_Exp_rank_168
    · simp only [List.mem_cons, List.not_mem_nil, or_false] at c2
      refine lv_bipush (v := 8) S.x S.b d_Exp_rank_172 (by decide) ?_
      exact px_iret (v := 8) S hr rfl hlk hAe hw (Nat.le_of_ble_eq_true rfl) (Nat.le_of_ble_eq_true rfl) (⟨rfl, (show 0 ≤ (8 : Int) from by first | exact oz_e9a76ff475 | omega), (show (8 : Int) ≤ 10 from by first | exact oz_7d49d523c5 | omega), (show 1 ≤ (8 : Int) → 37 ≤ p0.toInt from by omega), (show R_ex_rank p0 (8 : Int32) from (Or.inl (Or.inr (Or.inr (Or.inr (Or.inr (Or.inr (Or.inr (Or.inr (Or.inr (Or.inl ⟨c2, rfl⟩)))))))))))⟩) d_Exp_rank_174
    · simp only [List.mem_cons, List.not_mem_nil, or_false] at c2
      refine lv_iconst (v := 2) S.x S.b d_Exp_rank_158 (by decide) ?_
      exact px_iret (v := 2) S hr rfl hlk hAe hw (Nat.le_of_ble_eq_true rfl) (Nat.le_of_ble_eq_true rfl) (⟨rfl, (show 0 ≤ (2 : Int) from by first | exact oz_42ded8c576 | omega), (show (2 : Int) ≤ 10 from by first | exact oz_5e333f7fca | omega), (show 1 ≤ (2 : Int) → 37 ≤ p0.toInt from by omega), (show R_ex_rank p0 (2 : Int32) from (Or.inl (Or.inr (Or.inr (Or.inr (Or.inr (Or.inr (Or.inr (Or.inr (Or.inr (Or.inr (Or.inl ⟨c2, rfl⟩))))))))))))⟩) d_Exp_rank_159
    · simp only [List.mem_cons, List.not_mem_nil, or_false] at c2
      refine lv_iconst (v := 1) S.x S.b d_Exp_rank_156 (by decide) ?_
      exact px_iret (v := 1) S hr rfl hlk hAe hw (Nat.le_of_ble_eq_true rfl) (Nat.le_of_ble_eq_true rfl) (⟨rfl, (show 0 ≤ (1 : Int) from by first | exact oz_19c3a41681 | omega), (show (1 : Int) ≤ 10 from by first | exact oz_7f2d4b7cbd | omega), (show 1 ≤ (1 : Int) → 37 ≤ p0.toInt from by omega), (show R_ex_rank p0 (1 : Int32) from (Or.inl (Or.inr (Or.inr (Or.inr (Or.inr (Or.inr (Or.inr (Or.inr (Or.inr (Or.inr (Or.inr ⟨c2, rfl⟩))))))))))))⟩) d_Exp_rank_157
set_option maxHeartbeats 4000000 in
set_option maxRecDepth 100000 in
theorem c_ex_isPrefix (l : Launch) (D : va_G) (cs : Nat → ClassId)  (p0 : Int32)   : MetI l y_Exp_isPrefix b_Exp_isPrefix 1 (.boolean) D cs 0 0 (0) (0) [.int p0] [] (fun _ => True) (fun v ps => (ps = []) ∧ (v = 0 ∨ v = 1) ∧ (v.toInt = 1 → 33 ≤ p0.toInt) ∧ (R_ex_isPrefix p0 v)) := by
  refine px_enter (by decide) (Nat.le_of_ble_eq_true rfl) ?_
  intro p e s m below meth c A ls hAe S hr hlk hnm hA hT hX hw hl
  have hl : lv_has ls 1 [(0, .int p0)] := hl
  have lp0 := Int32.le_toInt p0
  have up0 := Int32.toInt_lt p0
  have cst0 : (0 : Int32).toInt = 0 := rfl
  have cst1 : (1 : Int32).toInt = 1 := rfl
  have cst33 : (33 : Int32).toInt = 33 := rfl
  have cst43 : (43 : Int32).toInt = 43 := rfl
  have cst45 : (45 : Int32).toInt = 45 := rfl
  have cst126 : (126 : Int32).toInt = 126 := rfl
  have cst138 : (138 : Int32).toInt = 138 := rfl
  have cst139 : (139 : Int32).toInt = 139 := rfl
  refine lv_iload_n S.x S.b d_Exp_isPrefix_0 rfl (lv_at hl 0 rfl) ?_
  refine lv_bipush (v := 45) S.x S.b d_Exp_isPrefix_1 (by decide) ?_
  refine lv_icmp_eq (tgt := 38) S.x S.b d_Exp_isPrefix_3 (by decide) (fun c1 => ?_) (fun c1 => ?_)
  · have nc1 : p0.toInt = (45 : Int) := (i_eq (x := p0) (y := 45)).mp c1
    refine lv_iconst (v := 1) S.x S.b d_Exp_isPrefix_38 (by decide) ?_
    refine lv_goto (tgt := 43) S.x S.b d_Exp_isPrefix_39 (by decide) ?_
    exact px_iret (v := 1) S hr rfl hlk hAe hw (Nat.le_of_ble_eq_true rfl) (Nat.le_of_ble_eq_true rfl) (⟨rfl, (show (1 : Int32) = 0 ∨ (1 : Int32) = 1 from by first | exact Or.inl rfl | exact Or.inr rfl | exact z_or (by omega)), (show (1 : Int) = 1 → 33 ≤ p0.toInt from by omega), (show R_ex_isPrefix p0 (1 : Int32) from (Or.inl (Or.inl ⟨nc1, rfl⟩)))⟩) d_Exp_isPrefix_43
  · have nc1 : ¬ p0.toInt = (45 : Int) := mt (i_eq (x := p0) (y := 45)).mpr c1
    refine lv_iload_n S.x S.b d_Exp_isPrefix_6 rfl (lv_at hl 0 rfl) ?_
    refine lv_bipush (v := 43) S.x S.b d_Exp_isPrefix_7 (by decide) ?_
    refine lv_icmp_eq (tgt := 38) S.x S.b d_Exp_isPrefix_9 (by decide) (fun c3 => ?_) (fun c3 => ?_)
    · have nc3 : p0.toInt = (43 : Int) := (i_eq (x := p0) (y := 43)).mp c3
      refine lv_iconst (v := 1) S.x S.b d_Exp_isPrefix_38 (by decide) ?_
      refine lv_goto (tgt := 43) S.x S.b d_Exp_isPrefix_39 (by decide) ?_
      exact px_iret (v := 1) S hr rfl hlk hAe hw (Nat.le_of_ble_eq_true rfl) (Nat.le_of_ble_eq_true rfl) (⟨rfl, (show (1 : Int32) = 0 ∨ (1 : Int32) = 1 from by first | exact Or.inl rfl | exact Or.inr rfl | exact z_or (by omega)), (show (1 : Int) = 1 → 33 ≤ p0.toInt from by omega), (show R_ex_isPrefix p0 (1 : Int32) from (Or.inl (Or.inr ⟨nc1, Or.inl ⟨nc3, rfl⟩⟩)))⟩) d_Exp_isPrefix_43
    · have nc3 : ¬ p0.toInt = (43 : Int) := mt (i_eq (x := p0) (y := 43)).mpr c3
      refine lv_iload_n S.x S.b d_Exp_isPrefix_12 rfl (lv_at hl 0 rfl) ?_
      refine lv_bipush (v := 33) S.x S.b d_Exp_isPrefix_13 (by decide) ?_
      refine lv_icmp_eq (tgt := 38) S.x S.b d_Exp_isPrefix_15 (by decide) (fun c5 => ?_) (fun c5 => ?_)
      · have nc5 : p0.toInt = (33 : Int) := (i_eq (x := p0) (y := 33)).mp c5
        refine lv_iconst (v := 1) S.x S.b d_Exp_isPrefix_38 (by decide) ?_
        refine lv_goto (tgt := 43) S.x S.b d_Exp_isPrefix_39 (by decide) ?_
        exact px_iret (v := 1) S hr rfl hlk hAe hw (Nat.le_of_ble_eq_true rfl) (Nat.le_of_ble_eq_true rfl) (⟨rfl, (show (1 : Int32) = 0 ∨ (1 : Int32) = 1 from by first | exact Or.inl rfl | exact Or.inr rfl | exact z_or (by omega)), (show (1 : Int) = 1 → 33 ≤ p0.toInt from by omega), (show R_ex_isPrefix p0 (1 : Int32) from (Or.inl (Or.inr ⟨nc1, Or.inr ⟨nc3, Or.inl ⟨nc5, rfl⟩⟩⟩)))⟩) d_Exp_isPrefix_43
      · have nc5 : ¬ p0.toInt = (33 : Int) := mt (i_eq (x := p0) (y := 33)).mpr c5
        refine lv_iload_n S.x S.b d_Exp_isPrefix_18 rfl (lv_at hl 0 rfl) ?_
        refine lv_bipush (v := 126) S.x S.b d_Exp_isPrefix_19 (by decide) ?_
        refine lv_icmp_eq (tgt := 38) S.x S.b d_Exp_isPrefix_21 (by decide) (fun c7 => ?_) (fun c7 => ?_)
        · have nc7 : p0.toInt = (126 : Int) := (i_eq (x := p0) (y := 126)).mp c7
          refine lv_iconst (v := 1) S.x S.b d_Exp_isPrefix_38 (by decide) ?_
          refine lv_goto (tgt := 43) S.x S.b d_Exp_isPrefix_39 (by decide) ?_
          exact px_iret (v := 1) S hr rfl hlk hAe hw (Nat.le_of_ble_eq_true rfl) (Nat.le_of_ble_eq_true rfl) (⟨rfl, (show (1 : Int32) = 0 ∨ (1 : Int32) = 1 from by first | exact Or.inl rfl | exact Or.inr rfl | exact z_or (by omega)), (show (1 : Int) = 1 → 33 ≤ p0.toInt from by omega), (show R_ex_isPrefix p0 (1 : Int32) from (Or.inl (Or.inr ⟨nc1, Or.inr ⟨nc3, Or.inr ⟨nc5, Or.inl ⟨nc7, rfl⟩⟩⟩⟩)))⟩) d_Exp_isPrefix_43
        · have nc7 : ¬ p0.toInt = (126 : Int) := mt (i_eq (x := p0) (y := 126)).mpr c7
          refine lv_iload_n S.x S.b d_Exp_isPrefix_24 rfl (lv_at hl 0 rfl) ?_
          refine lv_sipush (v := 138) S.x S.b d_Exp_isPrefix_25 (by decide) ?_
          refine lv_icmp_eq (tgt := 38) S.x S.b d_Exp_isPrefix_28 (by decide) (fun c9 => ?_) (fun c9 => ?_)
          · have nc9 : p0.toInt = (138 : Int) := (i_eq (x := p0) (y := 138)).mp c9
            refine lv_iconst (v := 1) S.x S.b d_Exp_isPrefix_38 (by decide) ?_
            refine lv_goto (tgt := 43) S.x S.b d_Exp_isPrefix_39 (by decide) ?_
            exact px_iret (v := 1) S hr rfl hlk hAe hw (Nat.le_of_ble_eq_true rfl) (Nat.le_of_ble_eq_true rfl) (⟨rfl, (show (1 : Int32) = 0 ∨ (1 : Int32) = 1 from by first | exact Or.inl rfl | exact Or.inr rfl | exact z_or (by omega)), (show (1 : Int) = 1 → 33 ≤ p0.toInt from by omega), (show R_ex_isPrefix p0 (1 : Int32) from (Or.inl (Or.inr ⟨nc1, Or.inr ⟨nc3, Or.inr ⟨nc5, Or.inr ⟨nc7, Or.inl ⟨nc9, rfl⟩⟩⟩⟩⟩)))⟩) d_Exp_isPrefix_43
          · have nc9 : ¬ p0.toInt = (138 : Int) := mt (i_eq (x := p0) (y := 138)).mpr c9
            refine lv_iload_n S.x S.b d_Exp_isPrefix_31 rfl (lv_at hl 0 rfl) ?_
            refine lv_sipush (v := 139) S.x S.b d_Exp_isPrefix_32 (by decide) ?_
            refine lv_icmp_ne (tgt := 42) S.x S.b d_Exp_isPrefix_35 (by decide) (fun c11 => ?_) (fun c11 => ?_)
            · have nc11 : ¬ p0.toInt = (139 : Int) := mt (i_eq (x := p0) (y := 139)).mpr c11
              refine lv_iconst (v := 0) S.x S.b d_Exp_isPrefix_42 (by decide) ?_
              exact px_iret (v := 0) S hr rfl hlk hAe hw (Nat.le_of_ble_eq_true rfl) (Nat.le_of_ble_eq_true rfl) (⟨rfl, (show (0 : Int32) = 0 ∨ (0 : Int32) = 1 from by first | exact Or.inl rfl | exact Or.inr rfl | exact z_or (by omega)), (show (0 : Int) = 1 → 33 ≤ p0.toInt from by omega), (show R_ex_isPrefix p0 (0 : Int32) from (Or.inl (Or.inr ⟨nc1, Or.inr ⟨nc3, Or.inr ⟨nc5, Or.inr ⟨nc7, Or.inr ⟨nc9, Or.inl ⟨nc11, rfl⟩⟩⟩⟩⟩⟩)))⟩) d_Exp_isPrefix_43
            · have nc11 : p0.toInt = (139 : Int) := (i_eq (x := p0) (y := 139)).mp c11
              refine lv_iconst (v := 1) S.x S.b d_Exp_isPrefix_38 (by decide) ?_
              refine lv_goto (tgt := 43) S.x S.b d_Exp_isPrefix_39 (by decide) ?_
              exact px_iret (v := 1) S hr rfl hlk hAe hw (Nat.le_of_ble_eq_true rfl) (Nat.le_of_ble_eq_true rfl) (⟨rfl, (show (1 : Int32) = 0 ∨ (1 : Int32) = 1 from by first | exact Or.inl rfl | exact Or.inr rfl | exact z_or (by omega)), (show (1 : Int) = 1 → 33 ≤ p0.toInt from by omega), (show R_ex_isPrefix p0 (1 : Int32) from (Or.inl (Or.inr ⟨nc1, Or.inr ⟨nc3, Or.inr ⟨nc5, Or.inr ⟨nc7, Or.inr ⟨nc9, Or.inr ⟨nc11, rfl⟩⟩⟩⟩⟩⟩)))⟩) d_Exp_isPrefix_43
abbrev b_Exp_number : ByteArray := prog_3_method_5_code
def y_Exp_number : MethodName := ⟨"HomeSystem$Expressions", "number", "(LHomeSystem$Operand;)V"⟩
theorem d_Exp_number_0 : decode b_Exp_number 0 = .ok (.aload_n 1, 1) := by decide +kernel
theorem d_Exp_number_1 : decode b_Exp_number 1 = .ok (.getfield 79, 3) := by decide +kernel
theorem d_Exp_number_4 : decode b_Exp_number 4 = .ok (.iconst 2, 1) := by decide +kernel
theorem d_Exp_number_5 : decode b_Exp_number 5 = .ok (.if_icmp .ne 18, 3) := by decide +kernel
theorem d_Exp_number_8 : decode b_Exp_number 8 = .ok (.aload_n 0, 1) := by decide +kernel
theorem d_Exp_number_9 : decode b_Exp_number 9 = .ok (.getfield 9, 3) := by decide +kernel
theorem d_Exp_number_12 : decode b_Exp_number 12 = .ok (.iconst 3, 1) := by decide +kernel
theorem d_Exp_number_13 : decode b_Exp_number 13 = .ok (.aload_n 1, 1) := by decide +kernel
theorem d_Exp_number_14 : decode b_Exp_number 14 = .ok (.getfield 82, 3) := by decide +kernel
theorem d_Exp_number_17 : decode b_Exp_number 17 = .ok (.invokevirtual 85, 3) := by decide +kernel
theorem d_Exp_number_20 : decode b_Exp_number 20 = .ok (.goto 71, 3) := by decide +kernel
theorem d_Exp_number_23 : decode b_Exp_number 23 = .ok (.aload_n 1, 1) := by decide +kernel
theorem d_Exp_number_24 : decode b_Exp_number 24 = .ok (.getfield 79, 3) := by decide +kernel
theorem d_Exp_number_27 : decode b_Exp_number 27 = .ok (.iconst 3, 1) := by decide +kernel
theorem d_Exp_number_28 : decode b_Exp_number 28 = .ok (.if_icmp .ne 18, 3) := by decide +kernel
theorem d_Exp_number_31 : decode b_Exp_number 31 = .ok (.aload_n 0, 1) := by decide +kernel
theorem d_Exp_number_32 : decode b_Exp_number 32 = .ok (.getfield 9, 3) := by decide +kernel
theorem d_Exp_number_35 : decode b_Exp_number 35 = .ok (.iconst 5, 1) := by decide +kernel
theorem d_Exp_number_36 : decode b_Exp_number 36 = .ok (.aload_n 1, 1) := by decide +kernel
theorem d_Exp_number_37 : decode b_Exp_number 37 = .ok (.getfield 88, 3) := by decide +kernel
theorem d_Exp_number_40 : decode b_Exp_number 40 = .ok (.invokevirtual 85, 3) := by decide +kernel
theorem d_Exp_number_43 : decode b_Exp_number 43 = .ok (.goto 48, 3) := by decide +kernel
theorem d_Exp_number_46 : decode b_Exp_number 46 = .ok (.aload_n 1, 1) := by decide +kernel
theorem d_Exp_number_47 : decode b_Exp_number 47 = .ok (.getfield 79, 3) := by decide +kernel
theorem d_Exp_number_50 : decode b_Exp_number 50 = .ok (.iconst 1, 1) := by decide +kernel
theorem d_Exp_number_51 : decode b_Exp_number 51 = .ok (.if_icmp .ne 40, 3) := by decide +kernel
theorem d_Exp_number_54 : decode b_Exp_number 54 = .ok (.aload_n 1, 1) := by decide +kernel
theorem d_Exp_number_55 : decode b_Exp_number 55 = .ok (.getfield 91, 3) := by decide +kernel
theorem d_Exp_number_58 : decode b_Exp_number 58 = .ok (.ifnull 33, 3) := by decide +kernel
theorem d_Exp_number_61 : decode b_Exp_number 61 = .ok (.aload_n 0, 1) := by decide +kernel
theorem d_Exp_number_62 : decode b_Exp_number 62 = .ok (.getfield 19, 3) := by decide +kernel
theorem d_Exp_number_65 : decode b_Exp_number 65 = .ok (.iconst 2, 1) := by decide +kernel
theorem d_Exp_number_66 : decode b_Exp_number 66 = .ok (.aload_n 1, 1) := by decide +kernel
theorem d_Exp_number_67 : decode b_Exp_number 67 = .ok (.getfield 91, 3) := by decide +kernel
theorem d_Exp_number_70 : decode b_Exp_number 70 = .ok (.getfield 95, 3) := by decide +kernel
theorem d_Exp_number_73 : decode b_Exp_number 73 = .ok (.aload_n 1, 1) := by decide +kernel
theorem d_Exp_number_74 : decode b_Exp_number 74 = .ok (.getfield 91, 3) := by decide +kernel
theorem d_Exp_number_77 : decode b_Exp_number 77 = .ok (.getfield 100, 3) := by decide +kernel
theorem d_Exp_number_80 : decode b_Exp_number 80 = .ok (.aload_n 1, 1) := by decide +kernel
theorem d_Exp_number_81 : decode b_Exp_number 81 = .ok (.getfield 91, 3) := by decide +kernel
theorem d_Exp_number_84 : decode b_Exp_number 84 = .ok (.getfield 103, 3) := by decide +kernel
theorem d_Exp_number_87 : decode b_Exp_number 87 = .ok (.invokevirtual 106, 3) := by decide +kernel
theorem d_Exp_number_90 : decode b_Exp_number 90 = .ok (.pop, 1) := by decide +kernel
theorem d_Exp_number_91 : decode b_Exp_number 91 = .ok (.aload_n 1, 1) := by decide +kernel
theorem d_Exp_number_92 : decode b_Exp_number 92 = .ok (.iconst 0, 1) := by decide +kernel
theorem d_Exp_number_93 : decode b_Exp_number 93 = .ok (.putfield 79, 3) := by decide +kernel
theorem d_Exp_number_96 : decode b_Exp_number 96 = .ok (.return_, 1) := by decide +kernel
theorem q_Exp_number : px_y y_Exp_number 1 := by unfold px_y; decide +kernel
set_option maxHeartbeats 4000000 in
set_option maxRecDepth 100000 in
theorem c_ex_number (l : Launch) (D : va_G) (cs : Nat → ClassId) (he : Nat) (re : Nat → Nat) (eo : Nat → Option Nat) (ef : Nat → Int32) (ea : Nat → Nat → Int32) (eg : Nat → Nat → Option Nat) (rt : Nat → Nat) (ot : Nat → Option Nat) (ta : Nat → Nat → Int32) (tg : Nat → Nat → Option Nat) (tf : Nat → Int32) (rp : Nat → Nat) (of : Option Nat) (cn : Nat) (fp : Nat → Int32) (cd : Nat → Int32) (P : va_W) (hx : Nat) (ox : Option Nat) (fx : Nat → Int32)  (hinv0 : CurOk (tf 10) (tf 13) (tf 14) (tf 15) (tf 17) (ta 0)) (g0 : cn % 4 = 0) (g1 : cn ≤ 100000) (g2 : 0 ≤ (fx 0).toInt) (g3 : 0 ≤ (fx 3).toInt) (hpk : Pok cn (fp 3) cd) (hsx : Sy P ox) : MetV l y_Exp_number b_Exp_number 2 D cs 1 40 (0) (0) [.ref he, .ref hx] [wd_Exp cs he re eo ef ea eg, wd_Tok cs (re 0) rt ot tf ta tg, wd_Prg cs (re 2) rp (fun k => if k = 2 then of else none) fp (fun _ _ => 0) (fun _ _ => none), [((rp 1), .inl (cs 0, cn, .inl cd))], P, wd_Opd cs hx (fun _ => 0) (fun k => if k = 4 then ox else none) fx (fun _ _ => 0) (fun _ _ => none)] (fun _ => True) (fun ps => ∃ (tf' : Nat → Int32) (fp' : Nat → Int32) (cd' : Nat → Int32) (fx' : Nat → Int32), (ps = [wd_Exp cs he re eo ef ea eg, wd_Tok cs (re 0) rt ot tf' ta tg, wd_Prg cs (re 2) rp (fun k => if k = 2 then of else none) fp' (fun _ _ => 0) (fun _ _ => none), [((rp 1), .inl (cs 0, cn, .inl cd'))], P, wd_Opd cs hx (fun _ => 0) (fun k => if k = 4 then ox else none) fx' (fun _ _ => 0) (fun _ _ => none)]) ∧ (CurOk (tf' 10) (tf' 13) (tf' 14) (tf' 15) (tf' 17) (ta 0)) ∧ ((tf' 10).toInt = (tf 10).toInt) ∧ ((tf' 13).toInt = (tf 13).toInt) ∧ ((tf' 14).toInt = (tf 14).toInt) ∧ ((tf' 15).toInt = (tf 15).toInt) ∧ ((fx' 0).toInt = (fx 0).toInt) ∧ ((fx' 3).toInt = (fx 3).toInt) ∧ ((fx' 5).toInt = (fx 5).toInt) ∧ (Prel cn (fp 3) cd (fp' 3) cd') ∧ ((fp' 3).toInt ≤ (fp 3).toInt + 4) ∧ (R_ex_number cn P ox tf fp cd fx tf' fp' cd' fx')) := by
  refine px_enter (by decide) (Nat.le_of_ble_eq_true rfl) ?_
  intro p e s m below meth c A ls hAe S hr hlk hnm hA hT hX hw hl
  have hl : lv_has ls 2 [(0, .ref he), (1, .ref hx)] := hl
  have cst0 : (0 : Int32).toInt = 0 := rfl
  have cst1 : (1 : Int32).toInt = 1 := rfl
  have cst2 : (2 : Int32).toInt = 2 := rfl
  have cst3 : (3 : Int32).toInt = 3 := rfl
  have cst5 : (5 : Int32).toInt = 5 := rfl
  obtain ⟨⟨o1, o2⟩, ⟨o3, o4⟩, ⟨o5, o6⟩, o7, o8, hlast⟩ := hinv0
  have hrel := Prel.rf hpk
  have pz0 := hrel.nm
  refine lv_aload_n S.x S.b d_Exp_number_0 rfl (lv_at hl 1 rfl) ?_
  refine px_get S k_Opd hT hw 5 0 1 (v := .int (fx 1)) rfl rfl rfl (by decide) m4_221 d_Exp_number_1 ?_
  refine lv_iconst (v := 2) S.x S.b d_Exp_number_4 (by decide) ?_
  refine lv_icmp_ne (tgt := 23) S.x S.b d_Exp_number_5 (by decide) (fun c1 => ?_) (fun c1 => ?_)
  · have nc1 : ¬ (fx 1).toInt = (2 : Int) := mt (i_eq (x := (fx 1)) (y := 2)).mpr c1
    refine lv_aload_n S.x S.b d_Exp_number_23 rfl (lv_at hl 1 rfl) ?_
    refine px_get S k_Opd hT hw 5 0 1 (v := .int (fx 1)) rfl rfl rfl (by decide) m4_221 d_Exp_number_24 ?_
    refine lv_iconst (v := 3) S.x S.b d_Exp_number_27 (by decide) ?_
    refine lv_icmp_ne (tgt := 46) S.x S.b d_Exp_number_28 (by decide) (fun c3 => ?_) (fun c3 => ?_)
    · have nc3 : ¬ (fx 1).toInt = (3 : Int) := mt (i_eq (x := (fx 1)) (y := 3)).mpr c3
      refine lv_aload_n S.x S.b d_Exp_number_46 rfl (lv_at hl 1 rfl) ?_
      refine px_get S k_Opd hT hw 5 0 1 (v := .int (fx 1)) rfl rfl rfl (by decide) m4_221 d_Exp_number_47 ?_
      refine lv_iconst (v := 1) S.x S.b d_Exp_number_50 (by decide) ?_
      refine lv_icmp_ne (tgt := 91) S.x S.b d_Exp_number_51 (by decide) (fun c5 => ?_) (fun c5 => ?_)
      · have nc5 : ¬ (fx 1).toInt = (1 : Int) := mt (i_eq (x := (fx 1)) (y := 1)).mpr c5
        refine lv_aload_n S.x S.b d_Exp_number_91 rfl (lv_at hl 1 rfl) ?_
        refine lv_iconst (v := 0) S.x S.b d_Exp_number_92 (by decide) ?_
        refine px_put S k_Opd hT hw 5 0 1 rfl rfl (by decide) m4_221 rfl rfl rfl (Nat.le_of_ble_eq_true rfl) d_Exp_number_93 (w' := wd_Opd cs hx (fun _ => 0) (fun k => if k = 4 then ox else none) (upd fx 1 0) (fun _ _ => 0) (fun _ _ => none)) (ps' := [wd_Exp cs he re eo ef ea eg, wd_Tok cs (re 0) rt ot tf ta tg, wd_Prg cs (re 2) rp (fun k => if k = 2 then of else none) fp (fun _ _ => 0) (fun _ _ => none), [((rp 1), .inl (cs 0, cn, .inl cd))], P, wd_Opd cs hx (fun _ => 0) (fun k => if k = 4 then ox else none) (upd fx 1 0) (fun _ _ => 0) (fun _ _ => none)]) rfl rfl (fun H locs hw => ?_)
        exact px_vret S hr hlk hAe hw (Nat.le_of_ble_eq_true rfl) (Nat.le_of_ble_eq_true rfl) (⟨tf, fp, cd, (upd fx 1 0), rfl, (show CurOk (tf 10) (tf 13) (tf 14) (tf 15) (tf 17) (ta 0) from ⟨⟨by first | exact o1 | omega, by first | exact o2 | omega⟩, ⟨by first | exact o3 | omega, by first | exact o4 | omega⟩, ⟨by first | exact o5 | omega, by first | exact o6 | omega⟩, by first | exact o7 | omega, by omega, last_eq hlast (rfl)⟩), (show (tf 10).toInt = (tf 10).toInt from rfl), (show (tf 13).toInt = (tf 13).toInt from rfl), (show (tf 14).toInt = (tf 14).toInt from rfl), (show (tf 15).toInt = (tf 15).toInt from rfl), (show (fx 0).toInt = (fx 0).toInt from rfl), (show (fx 3).toInt = (fx 3).toInt from rfl), (show (fx 5).toInt = (fx 5).toInt from rfl), (show Prel cn (fp 3) cd (fp 3) cd from hrel), (show (fp 3).toInt ≤ (fp 3).toInt + 4 from by first | exact oz_4550f3b49c | omega), (show R_ex_number cn P ox tf fp cd fx tf fp cd (upd fx 1 0) from (Or.inl (Or.inl ⟨nc1, Or.inl ⟨nc3, Or.inl ⟨nc5, rfl, rfl, rfl, rfl⟩⟩⟩)))⟩) d_Exp_number_96
      · have nc5 : (fx 1).toInt = (1 : Int) := (i_eq (x := (fx 1)) (y := 1)).mp c5
        refine lv_aload_n S.x S.b d_Exp_number_54 rfl (lv_at hl 1 rfl) ?_
        refine px_get S k_Opd hT hw 5 0 4 (v := va_rf ox) rfl rfl rfl (by decide) m4_226 d_Exp_number_55 ?_
        refine lq_ifnull (x := ox) (tgt := 91) S.x S.b d_Exp_number_58 (by decide) (fun c7 => ?_) (fun q8 c7 => ?_)
        ·
          subst c7
          refine lv_aload_n S.x S.b d_Exp_number_91 rfl (lv_at hl 1 rfl) ?_
          refine lv_iconst (v := 0) S.x S.b d_Exp_number_92 (by decide) ?_
          refine px_put S k_Opd hT hw 5 0 1 rfl rfl (by decide) m4_221 rfl rfl rfl (Nat.le_of_ble_eq_true rfl) d_Exp_number_93 (w' := wd_Opd cs hx (fun _ => 0) (fun k => if k = 4 then none else none) (upd fx 1 0) (fun _ _ => 0) (fun _ _ => none)) (ps' := [wd_Exp cs he re eo ef ea eg, wd_Tok cs (re 0) rt ot tf ta tg, wd_Prg cs (re 2) rp (fun k => if k = 2 then of else none) fp (fun _ _ => 0) (fun _ _ => none), [((rp 1), .inl (cs 0, cn, .inl cd))], P, wd_Opd cs hx (fun _ => 0) (fun k => if k = 4 then none else none) (upd fx 1 0) (fun _ _ => 0) (fun _ _ => none)]) rfl rfl (fun H locs hw => ?_)
          exact px_vret S hr hlk hAe hw (Nat.le_of_ble_eq_true rfl) (Nat.le_of_ble_eq_true rfl) (⟨tf, fp, cd, (upd fx 1 0), rfl, (show CurOk (tf 10) (tf 13) (tf 14) (tf 15) (tf 17) (ta 0) from ⟨⟨by first | exact o1 | omega, by first | exact o2 | omega⟩, ⟨by first | exact o3 | omega, by first | exact o4 | omega⟩, ⟨by first | exact o5 | omega, by first | exact o6 | omega⟩, by first | exact o7 | omega, by omega, last_eq hlast (rfl)⟩), (show (tf 10).toInt = (tf 10).toInt from rfl), (show (tf 13).toInt = (tf 13).toInt from rfl), (show (tf 14).toInt = (tf 14).toInt from rfl), (show (tf 15).toInt = (tf 15).toInt from rfl), (show (fx 0).toInt = (fx 0).toInt from rfl), (show (fx 3).toInt = (fx 3).toInt from rfl), (show (fx 5).toInt = (fx 5).toInt from rfl), (show Prel cn (fp 3) cd (fp 3) cd from hrel), (show (fp 3).toInt ≤ (fp 3).toInt + 4 from by first | exact oz_4550f3b49c | omega), (show R_ex_number cn P none tf fp cd fx tf fp cd (upd fx 1 0) from (Or.inl (Or.inl ⟨nc1, Or.inl ⟨nc3, Or.inr ⟨nc5, Or.inl ⟨rfl, rfl, rfl, rfl, rfl⟩⟩⟩⟩)))⟩) d_Exp_number_96
        ·
          subst c7
          refine lv_aload_n S.x S.b d_Exp_number_61 rfl (lv_at hl 0 rfl) ?_
          refine px_get S k_Exp hT hw 0 0 2 (v := .ref (re 2)) rfl rfl rfl (by decide) m2_133 d_Exp_number_62 ?_
          refine lv_iconst (v := 2) S.x S.b d_Exp_number_65 (by decide) ?_
          refine lv_aload_n S.x S.b d_Exp_number_66 rfl (lv_at hl 1 rfl) ?_
          refine px_get S k_Opd hT hw 5 0 4 (v := .ref q8) rfl rfl rfl (by decide) m4_226 d_Exp_number_67 ?_
          obtain ⟨j10, s11, hj12⟩ := (show Sy P (some q8) by first | assumption | exact Fy.sy (by assumption)).at
          refine px_get S k_Sym hT hw 4 j10 2 (v := .int (s11 2)) rfl hj12 rfl (by decide) m1_213 d_Exp_number_70 ?_
          refine lv_aload_n S.x S.b d_Exp_number_73 rfl (lv_at hl 1 rfl) ?_
          refine px_get S k_Opd hT hw 5 0 4 (v := .ref q8) rfl rfl rfl (by decide) m4_226 d_Exp_number_74 ?_
          refine px_get S k_Sym hT hw 4 j10 3 (v := .int (s11 3)) rfl hj12 rfl (by decide) m1_216 d_Exp_number_77 ?_
          refine lv_aload_n S.x S.b d_Exp_number_80 rfl (lv_at hl 1 rfl) ?_
          refine px_get S k_Opd hT hw 5 0 4 (v := .ref q8) rfl rfl rfl (by decide) m4_226 d_Exp_number_81 ?_
          refine px_get S k_Sym hT hw 4 j10 4 (v := .int (s11 4)) rfl hj12 rfl (by decide) m1_219 d_Exp_number_84 ?_
          have hw : pw D A s.heap _ _ [wd_Exp cs he re eo ef ea eg, wd_Tok cs (re 0) rt ot tf ta tg, P, wd_Opd cs hx (fun _ => 0) (fun k => if k = 4 then (some q8) else none) fx (fun _ _ => 0) (fun _ _ => none), wd_Prg cs (re 2) rp (fun k => if k = 2 then of else none) fp (fun _ _ => 0) (fun _ _ => none), [((rp 1), .inl (cs 0, cn, .inl cd))]] := hw.sub [0, 1, 4, 5, 2, 3] rfl rfl
          refine px_calli (pr := [wd_Exp cs he re eo ef ea eg, wd_Tok cs (re 0) rt ot tf ta tg, P, wd_Opd cs hx (fun _ => 0) (fun k => if k = 4 then (some q8) else none) fx (fun _ _ => 0) (fun _ _ => none)]) (px_runV (As := [.int 2, .int (s11 2), .int (s11 3), .int (s11 4)]) (rest := []) S (c_pe_emit l D cs (re 2) rp of cn fp cd 2 (s11 2) (s11 3) (s11 4)  (show cn % 4 = 0 from by first | exact g0 | omega) (show cn ≤ 100000 from by first | exact g1 | omega) hrel.1 (jop_low (by decide)) _) hT (pr := [wd_Exp cs he re eo ef ea eg, wd_Tok cs (re 0) rt ot tf ta tg, P, wd_Opd cs hx (fun _ => 0) (fun k => if k = 4 then (some q8) else none) fx (fun _ _ => 0) (fun _ _ => none)]) (pcs := [wd_Prg cs (re 2) rp (fun k => if k = 2 then of else none) fp (fun _ _ => 0) (fun _ _ => none), [((rp 1), .inl (cs 0, cn, .inl cd))]]) hw px_X.tt (px_recv hT hw 4 0 rfl rfl rfl) m4_181 m4_178 m4_179 m4_180 m1_16 q_Prg_emit ⟨Nat.le_of_ble_eq_true rfl, Nat.le_of_ble_eq_true rfl⟩ hl.1 rfl (Nat.le_of_ble_eq_true rfl) d_Exp_number_87 ⟨Nat.le_of_ble_eq_true rfl, Nat.le_of_ble_eq_true rfl⟩) hw hA (fun v18 p17 H locs hp17 hw => ?_)
          obtain ⟨fp15, cd16, rfl, hv_v18, hem, hwx, hsz, k0fp15, k4fp15, k5fp15, hR_fp15⟩ := hp17
          have tv_v18 : v18.toInt = (fp 3).toInt := by rw [hv_v18]
          have pm19 := hem.2.1
          have hrel := hrel.tr hem
          have pz20 := hrel.nm
          have hsl_fp15 : (fp15 3).toInt ≤ (fp 3).toInt + 4 := by omega
          clear hsz
          have hw : pw D A s.heap H locs [wd_Exp cs he re eo ef ea eg, wd_Tok cs (re 0) rt ot tf ta tg, P, wd_Opd cs hx (fun _ => 0) (fun k => if k = 4 then (some q8) else none) fx (fun _ _ => 0) (fun _ _ => none), wd_Prg cs (re 2) rp (fun k => if k = 2 then of else none) fp15 (fun _ _ => 0) (fun _ _ => none), [((rp 1), .inl (cs 0, cn, .inl cd16))]] := hw
          have lv18 := Int32.le_toInt v18
          have uv18 := Int32.toInt_lt v18
          refine lv_pop S.x S.b d_Exp_number_90 rfl ?_
          refine lv_aload_n S.x S.b d_Exp_number_91 rfl (lv_at hl 1 rfl) ?_
          refine lv_iconst (v := 0) S.x S.b d_Exp_number_92 (by decide) ?_
          refine px_put S k_Opd hT hw 3 0 1 rfl rfl (by decide) m4_221 rfl rfl rfl (Nat.le_of_ble_eq_true rfl) d_Exp_number_93 (w' := wd_Opd cs hx (fun _ => 0) (fun k => if k = 4 then (some q8) else none) (upd fx 1 0) (fun _ _ => 0) (fun _ _ => none)) (ps' := [wd_Exp cs he re eo ef ea eg, wd_Tok cs (re 0) rt ot tf ta tg, P, wd_Opd cs hx (fun _ => 0) (fun k => if k = 4 then (some q8) else none) (upd fx 1 0) (fun _ _ => 0) (fun _ _ => none), wd_Prg cs (re 2) rp (fun k => if k = 2 then of else none) fp15 (fun _ _ => 0) (fun _ _ => none), [((rp 1), .inl (cs 0, cn, .inl cd16))]]) rfl rfl (fun H locs hw => ?_)
          have hw : pw D A s.heap _ _ [wd_Exp cs he re eo ef ea eg, wd_Tok cs (re 0) rt ot tf ta tg, wd_Prg cs (re 2) rp (fun k => if k = 2 then of else none) fp15 (fun _ _ => 0) (fun _ _ => none), [((rp 1), .inl (cs 0, cn, .inl cd16))], P, wd_Opd cs hx (fun _ => 0) (fun k => if k = 4 then (some q8) else none) (upd fx 1 0) (fun _ _ => 0) (fun _ _ => none)] := hw.sub [0, 1, 4, 5, 2, 3] rfl rfl
          exact px_vret S hr hlk hAe hw (Nat.le_of_ble_eq_true rfl) (Nat.le_of_ble_eq_true rfl) (⟨tf, fp15, cd16, (upd fx 1 0), rfl, (show CurOk (tf 10) (tf 13) (tf 14) (tf 15) (tf 17) (ta 0) from ⟨⟨by first | exact o1 | omega, by first | exact o2 | omega⟩, ⟨by first | exact o3 | omega, by first | exact o4 | omega⟩, ⟨by first | exact o5 | omega, by first | exact o6 | omega⟩, by first | exact o7 | omega, by omega, last_eq hlast (rfl)⟩), (show (tf 10).toInt = (tf 10).toInt from rfl), (show (tf 13).toInt = (tf 13).toInt from rfl), (show (tf 14).toInt = (tf 14).toInt from rfl), (show (tf 15).toInt = (tf 15).toInt from rfl), (show (fx 0).toInt = (fx 0).toInt from rfl), (show (fx 3).toInt = (fx 3).toInt from rfl), (show (fx 5).toInt = (fx 5).toInt from rfl), (show Prel cn (fp 3) cd (fp15 3) cd16 from hrel), (show (fp15 3).toInt ≤ (fp 3).toInt + 4 from by first | exact hsl_fp15 | omega), (show R_ex_number cn P (some q8) tf fp cd fx tf fp15 cd16 (upd fx 1 0) from (Or.inl (Or.inl ⟨nc1, Or.inl ⟨nc3, Or.inr ⟨nc5, Or.inr ⟨q8, rfl, j10, s11, hj12, fp15, cd16, v18, hR_fp15, rfl, rfl, rfl, rfl⟩⟩⟩⟩)))⟩) d_Exp_number_96
    · have nc3 : (fx 1).toInt = (3 : Int) := (i_eq (x := (fx 1)) (y := 3)).mp c3
      refine lv_aload_n S.x S.b d_Exp_number_31 rfl (lv_at hl 0 rfl) ?_
      refine px_get S k_Exp hT hw 0 0 0 (v := .ref (re 0)) rfl rfl rfl (by decide) m2_131 d_Exp_number_32 ?_
      refine lv_iconst (v := 5) S.x S.b d_Exp_number_35 (by decide) ?_
      refine lv_aload_n S.x S.b d_Exp_number_36 rfl (lv_at hl 1 rfl) ?_
      refine px_get S k_Opd hT hw 5 0 3 (v := .int (fx 3)) rfl rfl rfl (by decide) m4_225 d_Exp_number_37 ?_
      have hw : pw D A s.heap _ _ [wd_Exp cs he re eo ef ea eg, wd_Prg cs (re 2) rp (fun k => if k = 2 then of else none) fp (fun _ _ => 0) (fun _ _ => none), [((rp 1), .inl (cs 0, cn, .inl cd))], P, wd_Opd cs hx (fun _ => 0) (fun k => if k = 4 then ox else none) fx (fun _ _ => 0) (fun _ _ => none), wd_Tok cs (re 0) rt ot tf ta tg] := hw.sub [0, 2, 3, 4, 5, 1] rfl rfl
      refine px_callv (pr := [wd_Exp cs he re eo ef ea eg, wd_Prg cs (re 2) rp (fun k => if k = 2 then of else none) fp (fun _ _ => 0) (fun _ _ => none), [((rp 1), .inl (cs 0, cn, .inl cd))], P, wd_Opd cs hx (fun _ => 0) (fun k => if k = 4 then ox else none) fx (fun _ _ => 0) (fun _ _ => none)]) (px_runV (As := [.int 5, .int (fx 3)]) (rest := []) S (c_tk_blame l D cs (re 0) rt ot ta tg tf 5 (fx 3)  (show CurOk (tf 10) (tf 13) (tf 14) (tf 15) (tf 17) (ta 0) from ⟨⟨by first | exact o1 | omega, by first | exact o2 | omega⟩, ⟨by first | exact o3 | omega, by first | exact o4 | omega⟩, ⟨by first | exact o5 | omega, by first | exact o6 | omega⟩, by first | exact o7 | omega, by omega, last_eq hlast (rfl)⟩) (show 0 ≤ (fx 3).toInt from by first | exact g3 | omega) _) hT (pr := [wd_Exp cs he re eo ef ea eg, wd_Prg cs (re 2) rp (fun k => if k = 2 then of else none) fp (fun _ _ => 0) (fun _ _ => none), [((rp 1), .inl (cs 0, cn, .inl cd))], P, wd_Opd cs hx (fun _ => 0) (fun k => if k = 4 then ox else none) fx (fun _ _ => 0) (fun _ _ => none)]) (pcs := [wd_Tok cs (re 0) rt ot tf ta tg]) hw px_X.tt (px_recv hT hw 5 0 rfl rfl rfl) m4_173 m4_170 m4_171 m4_172 m1_2 q_Tok_blame ⟨Nat.le_of_ble_eq_true rfl, Nat.le_of_ble_eq_true rfl⟩ hl.1 rfl (Nat.le_of_ble_eq_true rfl) d_Exp_number_40 ⟨Nat.le_of_ble_eq_true rfl, Nat.le_of_ble_eq_true rfl⟩) hw hA (fun p22 H locs hp22 hw => ?_)
      obtain ⟨tf21, rfl, h29, e24, e25, e26, e27, e28⟩ := hp22
      obtain ⟨⟨o1, o2⟩, ⟨o3, o4⟩, ⟨o5, o6⟩, o7, o8, hlast⟩ := h29
      have e24 : (tf21 10).toInt = (tf 10).toInt := e24
      have e25 : (tf21 14).toInt = (tf 14).toInt := e25
      have e26 : (tf21 15).toInt = (tf 15).toInt := e26
      have e27 : (tf21 13).toInt = (tf 13).toInt := e27
      have e28 : R_tk_blame (5 : Int32) (fx 3) tf tf21 := e28
      have hw : pw D A s.heap H locs [wd_Exp cs he re eo ef ea eg, wd_Prg cs (re 2) rp (fun k => if k = 2 then of else none) fp (fun _ _ => 0) (fun _ _ => none), [((rp 1), .inl (cs 0, cn, .inl cd))], P, wd_Opd cs hx (fun _ => 0) (fun k => if k = 4 then ox else none) fx (fun _ _ => 0) (fun _ _ => none), wd_Tok cs (re 0) rt ot tf21 ta tg] := hw
      refine lv_goto (tgt := 91) S.x S.b d_Exp_number_43 (by decide) ?_
      refine lv_aload_n S.x S.b d_Exp_number_91 rfl (lv_at hl 1 rfl) ?_
      refine lv_iconst (v := 0) S.x S.b d_Exp_number_92 (by decide) ?_
      refine px_put S k_Opd hT hw 4 0 1 rfl rfl (by decide) m4_221 rfl rfl rfl (Nat.le_of_ble_eq_true rfl) d_Exp_number_93 (w' := wd_Opd cs hx (fun _ => 0) (fun k => if k = 4 then ox else none) (upd fx 1 0) (fun _ _ => 0) (fun _ _ => none)) (ps' := [wd_Exp cs he re eo ef ea eg, wd_Prg cs (re 2) rp (fun k => if k = 2 then of else none) fp (fun _ _ => 0) (fun _ _ => none), [((rp 1), .inl (cs 0, cn, .inl cd))], P, wd_Opd cs hx (fun _ => 0) (fun k => if k = 4 then ox else none) (upd fx 1 0) (fun _ _ => 0) (fun _ _ => none), wd_Tok cs (re 0) rt ot tf21 ta tg]) rfl rfl (fun H locs hw => ?_)
      have hw : pw D A s.heap _ _ [wd_Exp cs he re eo ef ea eg, wd_Tok cs (re 0) rt ot tf21 ta tg, wd_Prg cs (re 2) rp (fun k => if k = 2 then of else none) fp (fun _ _ => 0) (fun _ _ => none), [((rp 1), .inl (cs 0, cn, .inl cd))], P, wd_Opd cs hx (fun _ => 0) (fun k => if k = 4 then ox else none) (upd fx 1 0) (fun _ _ => 0) (fun _ _ => none)] := hw.sub [0, 5, 1, 2, 3, 4] rfl rfl
      exact px_vret S hr hlk hAe hw (Nat.le_of_ble_eq_true rfl) (Nat.le_of_ble_eq_true rfl) (⟨tf21, fp, cd, (upd fx 1 0), rfl, (show CurOk (tf21 10) (tf21 13) (tf21 14) (tf21 15) (tf21 17) (ta 0) from ⟨⟨by first | exact o1 | omega, by first | exact o2 | omega⟩, ⟨by first | exact o3 | omega, by first | exact o4 | omega⟩, ⟨by first | exact o5 | omega, by first | exact o6 | omega⟩, by first | exact o7 | omega, by omega, last_eq hlast (rfl)⟩), (show (tf21 10).toInt = (tf 10).toInt from by first | exact e24 | omega), (show (tf21 13).toInt = (tf 13).toInt from by first | exact e27 | omega), (show (tf21 14).toInt = (tf 14).toInt from by first | exact e25 | omega), (show (tf21 15).toInt = (tf 15).toInt from by first | exact e26 | omega), (show (fx 0).toInt = (fx 0).toInt from rfl), (show (fx 3).toInt = (fx 3).toInt from rfl), (show (fx 5).toInt = (fx 5).toInt from rfl), (show Prel cn (fp 3) cd (fp 3) cd from hrel), (show (fp 3).toInt ≤ (fp 3).toInt + 4 from by first | exact oz_4550f3b49c | omega), (show R_ex_number cn P ox tf fp cd fx tf21 fp cd (upd fx 1 0) from (Or.inl (Or.inl ⟨nc1, Or.inr ⟨nc3, tf21, e28, rfl, rfl, rfl, rfl⟩⟩)))⟩) d_Exp_number_96
  · have nc1 : (fx 1).toInt = (2 : Int) := (i_eq (x := (fx 1)) (y := 2)).mp c1
    refine lv_aload_n S.x S.b d_Exp_number_8 rfl (lv_at hl 0 rfl) ?_
    refine px_get S k_Exp hT hw 0 0 0 (v := .ref (re 0)) rfl rfl rfl (by decide) m2_131 d_Exp_number_9 ?_
    refine lv_iconst (v := 3) S.x S.b d_Exp_number_12 (by decide) ?_
    refine lv_aload_n S.x S.b d_Exp_number_13 rfl (lv_at hl 1 rfl) ?_
    refine px_get S k_Opd hT hw 5 0 0 (v := .int (fx 0)) rfl rfl rfl (by decide) m4_218 d_Exp_number_14 ?_
    have hw : pw D A s.heap _ _ [wd_Exp cs he re eo ef ea eg, wd_Prg cs (re 2) rp (fun k => if k = 2 then of else none) fp (fun _ _ => 0) (fun _ _ => none), [((rp 1), .inl (cs 0, cn, .inl cd))], P, wd_Opd cs hx (fun _ => 0) (fun k => if k = 4 then ox else none) fx (fun _ _ => 0) (fun _ _ => none), wd_Tok cs (re 0) rt ot tf ta tg] := hw.sub [0, 2, 3, 4, 5, 1] rfl rfl
    refine px_callv (pr := [wd_Exp cs he re eo ef ea eg, wd_Prg cs (re 2) rp (fun k => if k = 2 then of else none) fp (fun _ _ => 0) (fun _ _ => none), [((rp 1), .inl (cs 0, cn, .inl cd))], P, wd_Opd cs hx (fun _ => 0) (fun k => if k = 4 then ox else none) fx (fun _ _ => 0) (fun _ _ => none)]) (px_runV (As := [.int 3, .int (fx 0)]) (rest := []) S (c_tk_blame l D cs (re 0) rt ot ta tg tf 3 (fx 0)  (show CurOk (tf 10) (tf 13) (tf 14) (tf 15) (tf 17) (ta 0) from ⟨⟨by first | exact o1 | omega, by first | exact o2 | omega⟩, ⟨by first | exact o3 | omega, by first | exact o4 | omega⟩, ⟨by first | exact o5 | omega, by first | exact o6 | omega⟩, by first | exact o7 | omega, by omega, last_eq hlast (rfl)⟩) (show 0 ≤ (fx 0).toInt from by first | exact g2 | omega) _) hT (pr := [wd_Exp cs he re eo ef ea eg, wd_Prg cs (re 2) rp (fun k => if k = 2 then of else none) fp (fun _ _ => 0) (fun _ _ => none), [((rp 1), .inl (cs 0, cn, .inl cd))], P, wd_Opd cs hx (fun _ => 0) (fun k => if k = 4 then ox else none) fx (fun _ _ => 0) (fun _ _ => none)]) (pcs := [wd_Tok cs (re 0) rt ot tf ta tg]) hw px_X.tt (px_recv hT hw 5 0 rfl rfl rfl) m4_173 m4_170 m4_171 m4_172 m1_2 q_Tok_blame ⟨Nat.le_of_ble_eq_true rfl, Nat.le_of_ble_eq_true rfl⟩ hl.1 rfl (Nat.le_of_ble_eq_true rfl) d_Exp_number_17 ⟨Nat.le_of_ble_eq_true rfl, Nat.le_of_ble_eq_true rfl⟩) hw hA (fun p31 H locs hp31 hw => ?_)
    obtain ⟨tf30, rfl, h38, e33, e34, e35, e36, e37⟩ := hp31
    obtain ⟨⟨o1, o2⟩, ⟨o3, o4⟩, ⟨o5, o6⟩, o7, o8, hlast⟩ := h38
    have e33 : (tf30 10).toInt = (tf 10).toInt := e33
    have e34 : (tf30 14).toInt = (tf 14).toInt := e34
    have e35 : (tf30 15).toInt = (tf 15).toInt := e35
    have e36 : (tf30 13).toInt = (tf 13).toInt := e36
    have e37 : R_tk_blame (3 : Int32) (fx 0) tf tf30 := e37
    have hw : pw D A s.heap H locs [wd_Exp cs he re eo ef ea eg, wd_Prg cs (re 2) rp (fun k => if k = 2 then of else none) fp (fun _ _ => 0) (fun _ _ => none), [((rp 1), .inl (cs 0, cn, .inl cd))], P, wd_Opd cs hx (fun _ => 0) (fun k => if k = 4 then ox else none) fx (fun _ _ => 0) (fun _ _ => none), wd_Tok cs (re 0) rt ot tf30 ta tg] := hw
    refine lv_goto (tgt := 91) S.x S.b d_Exp_number_20 (by decide) ?_
    refine lv_aload_n S.x S.b d_Exp_number_91 rfl (lv_at hl 1 rfl) ?_
    refine lv_iconst (v := 0) S.x S.b d_Exp_number_92 (by decide) ?_
    refine px_put S k_Opd hT hw 4 0 1 rfl rfl (by decide) m4_221 rfl rfl rfl (Nat.le_of_ble_eq_true rfl) d_Exp_number_93 (w' := wd_Opd cs hx (fun _ => 0) (fun k => if k = 4 then ox else none) (upd fx 1 0) (fun _ _ => 0) (fun _ _ => none)) (ps' := [wd_Exp cs he re eo ef ea eg, wd_Prg cs (re 2) rp (fun k => if k = 2 then of else none) fp (fun _ _ => 0) (fun _ _ => none), [((rp 1), .inl (cs 0, cn, .inl cd))], P, wd_Opd cs hx (fun _ => 0) (fun k => if k = 4 then ox else none) (upd fx 1 0) (fun _ _ => 0) (fun _ _ => none), wd_Tok cs (re 0) rt ot tf30 ta tg]) rfl rfl (fun H locs hw => ?_)
    have hw : pw D A s.heap _ _ [wd_Exp cs he re eo ef ea eg, wd_Tok cs (re 0) rt ot tf30 ta tg, wd_Prg cs (re 2) rp (fun k => if k = 2 then of else none) fp (fun _ _ => 0) (fun _ _ => none), [((rp 1), .inl (cs 0, cn, .inl cd))], P, wd_Opd cs hx (fun _ => 0) (fun k => if k = 4 then ox else none) (upd fx 1 0) (fun _ _ => 0) (fun _ _ => none)] := hw.sub [0, 5, 1, 2, 3, 4] rfl rfl
    exact px_vret S hr hlk hAe hw (Nat.le_of_ble_eq_true rfl) (Nat.le_of_ble_eq_true rfl) (⟨tf30, fp, cd, (upd fx 1 0), rfl, (show CurOk (tf30 10) (tf30 13) (tf30 14) (tf30 15) (tf30 17) (ta 0) from ⟨⟨by first | exact o1 | omega, by first | exact o2 | omega⟩, ⟨by first | exact o3 | omega, by first | exact o4 | omega⟩, ⟨by first | exact o5 | omega, by first | exact o6 | omega⟩, by first | exact o7 | omega, by omega, last_eq hlast (rfl)⟩), (show (tf30 10).toInt = (tf 10).toInt from by first | exact e33 | omega), (show (tf30 13).toInt = (tf 13).toInt from by first | exact e36 | omega), (show (tf30 14).toInt = (tf 14).toInt from by first | exact e34 | omega), (show (tf30 15).toInt = (tf 15).toInt from by first | exact e35 | omega), (show (fx 0).toInt = (fx 0).toInt from rfl), (show (fx 3).toInt = (fx 3).toInt from rfl), (show (fx 5).toInt = (fx 5).toInt from rfl), (show Prel cn (fp 3) cd (fp 3) cd from hrel), (show (fp 3).toInt ≤ (fp 3).toInt + 4 from by first | exact oz_4550f3b49c | omega), (show R_ex_number cn P ox tf fp cd fx tf30 fp cd (upd fx 1 0) from (Or.inl (Or.inr ⟨nc1, tf30, e37, rfl, rfl, rfl, rfl⟩)))⟩) d_Exp_number_96
abbrev b_Exp_shortcut : ByteArray := prog_3_method_8_code
def y_Exp_shortcut : MethodName := ⟨"HomeSystem$Expressions", "shortcut", "(I)I"⟩
theorem d_Exp_shortcut_0 : decode b_Exp_shortcut 0 = .ok (.iload_n 1, 1) := by decide +kernel
theorem d_Exp_shortcut_1 : decode b_Exp_shortcut 1 = .ok (.sipush 136, 3) := by decide +kernel
theorem d_Exp_shortcut_4 : decode b_Exp_shortcut 4 = .ok (.if_icmp .ne 16, 3) := by decide +kernel
theorem d_Exp_shortcut_7 : decode b_Exp_shortcut 7 = .ok (.aload_n 0, 1) := by decide +kernel
theorem d_Exp_shortcut_8 : decode b_Exp_shortcut 8 = .ok (.getfield 19, 3) := by decide +kernel
theorem d_Exp_shortcut_11 : decode b_Exp_shortcut 11 = .ok (.bipush 18, 2) := by decide +kernel
theorem d_Exp_shortcut_13 : decode b_Exp_shortcut 13 = .ok (.iconst (-1), 1) := by decide +kernel
theorem d_Exp_shortcut_14 : decode b_Exp_shortcut 14 = .ok (.iconst 0, 1) := by decide +kernel
theorem d_Exp_shortcut_15 : decode b_Exp_shortcut 15 = .ok (.iconst 0, 1) := by decide +kernel
theorem d_Exp_shortcut_16 : decode b_Exp_shortcut 16 = .ok (.invokevirtual 106, 3) := by decide +kernel
theorem d_Exp_shortcut_19 : decode b_Exp_shortcut 19 = .ok (.ireturn, 1) := by decide +kernel
theorem d_Exp_shortcut_20 : decode b_Exp_shortcut 20 = .ok (.iload_n 1, 1) := by decide +kernel
theorem d_Exp_shortcut_21 : decode b_Exp_shortcut 21 = .ok (.sipush 137, 3) := by decide +kernel
theorem d_Exp_shortcut_24 : decode b_Exp_shortcut 24 = .ok (.if_icmp .ne 18, 3) := by decide +kernel
theorem d_Exp_shortcut_27 : decode b_Exp_shortcut 27 = .ok (.aload_n 0, 1) := by decide +kernel
theorem d_Exp_shortcut_28 : decode b_Exp_shortcut 28 = .ok (.getfield 19, 3) := by decide +kernel
theorem d_Exp_shortcut_31 : decode b_Exp_shortcut 31 = .ok (.bipush 19, 2) := by decide +kernel
theorem d_Exp_shortcut_33 : decode b_Exp_shortcut 33 = .ok (.iconst (-1), 1) := by decide +kernel
theorem d_Exp_shortcut_34 : decode b_Exp_shortcut 34 = .ok (.iconst 0, 1) := by decide +kernel
theorem d_Exp_shortcut_35 : decode b_Exp_shortcut 35 = .ok (.iconst 0, 1) := by decide +kernel
theorem d_Exp_shortcut_36 : decode b_Exp_shortcut 36 = .ok (.invokevirtual 106, 3) := by decide +kernel
theorem d_Exp_shortcut_39 : decode b_Exp_shortcut 39 = .ok (.goto 4, 3) := by decide +kernel
theorem d_Exp_shortcut_42 : decode b_Exp_shortcut 42 = .ok (.iconst (-1), 1) := by decide +kernel
theorem d_Exp_shortcut_43 : decode b_Exp_shortcut 43 = .ok (.ireturn, 1) := by decide +kernel
theorem q_Exp_shortcut : px_y y_Exp_shortcut 1 := by unfold px_y; decide +kernel
set_option maxHeartbeats 4000000 in
set_option maxRecDepth 100000 in
theorem c_ex_shortcut (l : Launch) (D : va_G) (cs : Nat → ClassId) (he : Nat) (re : Nat → Nat) (eo : Nat → Option Nat) (ef : Nat → Int32) (ea : Nat → Nat → Int32) (eg : Nat → Nat → Option Nat) (rp : Nat → Nat) (of : Option Nat) (cn : Nat) (fp : Nat → Int32) (cd : Nat → Int32) (p0 : Int32)  (g0 : cn % 4 = 0) (g1 : cn ≤ 100000) (hpk : Pok cn (fp 3) cd) : MetI l y_Exp_shortcut b_Exp_shortcut 2 (.int) D cs 1 40 (0) (0) [.ref he, .int p0] [wd_Exp cs he re eo ef ea eg, wd_Prg cs (re 2) rp (fun k => if k = 2 then of else none) fp (fun _ _ => 0) (fun _ _ => none), [((rp 1), .inl (cs 0, cn, .inl cd))]] (fun _ => True) (fun v ps => ∃ (fp' : Nat → Int32) (cd' : Nat → Int32), (ps = [wd_Exp cs he re eo ef ea eg, wd_Prg cs (re 2) rp (fun k => if k = 2 then of else none) fp' (fun _ _ => 0) (fun _ _ => none), [((rp 1), .inl (cs 0, cn, .inl cd'))]]) ∧ (Prel cn (fp 3) cd (fp' 3) cd') ∧ ((fp' 3).toInt ≤ (fp 3).toInt + 4) ∧ (Wt cn cd' (fp' 3) v) ∧ (v.toInt = -1 ∨ (fp 3).toInt ≤ v.toInt) ∧ (R_ex_shortcut cn p0 fp cd fp' cd' v)) := by
  refine px_enter (by decide) (Nat.le_of_ble_eq_true rfl) ?_
  intro p e s m below meth c A ls hAe S hr hlk hnm hA hT hX hw hl
  have hl : lv_has ls 2 [(0, .ref he), (1, .int p0)] := hl
  have lp0 := Int32.le_toInt p0
  have up0 := Int32.toInt_lt p0
  have cstm1 : ((-1) : Int32).toInt = (-1) := rfl
  have cst0 : (0 : Int32).toInt = 0 := rfl
  have cst18 : (18 : Int32).toInt = 18 := rfl
  have cst19 : (19 : Int32).toInt = 19 := rfl
  have cst136 : (136 : Int32).toInt = 136 := rfl
  have cst137 : (137 : Int32).toInt = 137 := rfl
  have hrel := Prel.rf hpk
  have pz0 := hrel.nm
  refine lv_iload_n S.x S.b d_Exp_shortcut_0 rfl (lv_at hl 1 rfl) ?_
  refine lv_sipush (v := 136) S.x S.b d_Exp_shortcut_1 (by decide) ?_
  refine lv_icmp_ne (tgt := 20) S.x S.b d_Exp_shortcut_4 (by decide) (fun c1 => ?_) (fun c1 => ?_)
  · have nc1 : ¬ p0.toInt = (136 : Int) := mt (i_eq (x := p0) (y := 136)).mpr c1
    refine lv_iload_n S.x S.b d_Exp_shortcut_20 rfl (lv_at hl 1 rfl) ?_
    refine lv_sipush (v := 137) S.x S.b d_Exp_shortcut_21 (by decide) ?_
    refine lv_icmp_ne (tgt := 42) S.x S.b d_Exp_shortcut_24 (by decide) (fun c3 => ?_) (fun c3 => ?_)
    · have nc3 : ¬ p0.toInt = (137 : Int) := mt (i_eq (x := p0) (y := 137)).mpr c3
      refine lv_iconst (v := (-1)) S.x S.b d_Exp_shortcut_42 (by decide) ?_
      exact px_iret (v := (-1)) S hr rfl hlk hAe hw (Nat.le_of_ble_eq_true rfl) (Nat.le_of_ble_eq_true rfl) (⟨fp, cd, rfl, (show Prel cn (fp 3) cd (fp 3) cd from hrel), (show (fp 3).toInt ≤ (fp 3).toInt + 4 from by first | exact oz_4550f3b49c | omega), (show Wt cn cd (fp 3) (-1 : Int32) from (by first | assumption | exact Wt.no rfl)), (show (-1 : Int) = -1 ∨ (fp 3).toInt ≤ (-1 : Int) from by omega), (show R_ex_shortcut cn p0 fp cd fp cd (-1 : Int32) from (Or.inl (Or.inl ⟨nc1, Or.inl ⟨nc3, rfl, rfl, rfl⟩⟩)))⟩) d_Exp_shortcut_43
    · have nc3 : p0.toInt = (137 : Int) := (i_eq (x := p0) (y := 137)).mp c3
      refine lv_aload_n S.x S.b d_Exp_shortcut_27 rfl (lv_at hl 0 rfl) ?_
      refine px_get S k_Exp hT hw 0 0 2 (v := .ref (re 2)) rfl rfl rfl (by decide) m2_133 d_Exp_shortcut_28 ?_
      refine lv_bipush (v := 19) S.x S.b d_Exp_shortcut_31 (by decide) ?_
      refine lv_iconst (v := (-1)) S.x S.b d_Exp_shortcut_33 (by decide) ?_
      refine lv_iconst (v := 0) S.x S.b d_Exp_shortcut_34 (by decide) ?_
      refine lv_iconst (v := 0) S.x S.b d_Exp_shortcut_35 (by decide) ?_
      refine px_calli (pr := [wd_Exp cs he re eo ef ea eg]) (px_runV (As := [.int 19, .int (-1), .int 0, .int 0]) (rest := []) S (c_pe_emit l D cs (re 2) rp of cn fp cd 19 (-1) 0 0  (show cn % 4 = 0 from by first | exact g0 | omega) (show cn ≤ 100000 from by first | exact g1 | omega) hrel.1 (jop_lk (by decide) (by first | exact lk_m1 | assumption | exact lk_mk (by omega))) _) hT (pr := [wd_Exp cs he re eo ef ea eg]) (pcs := [wd_Prg cs (re 2) rp (fun k => if k = 2 then of else none) fp (fun _ _ => 0) (fun _ _ => none), [((rp 1), .inl (cs 0, cn, .inl cd))]]) hw px_X.tt (px_recv hT hw 1 0 rfl rfl rfl) m4_181 m4_178 m4_179 m4_180 m1_16 q_Prg_emit ⟨Nat.le_of_ble_eq_true rfl, Nat.le_of_ble_eq_true rfl⟩ hl.1 rfl (Nat.le_of_ble_eq_true rfl) d_Exp_shortcut_36 ⟨Nat.le_of_ble_eq_true rfl, Nat.le_of_ble_eq_true rfl⟩) hw hA (fun v10 p9 H locs hp9 hw => ?_)
      obtain ⟨fp7, cd8, rfl, hv_v10, hem, hwx, hsz, k0fp7, k4fp7, k5fp7, hR_fp7⟩ := hp9
      have tv_v10 : v10.toInt = (fp 3).toInt := by rw [hv_v10]
      have pm11 := hem.2.1
      have hrel := hrel.tr hem
      have pz12 := hrel.nm
      have hwt_v10 : Wt cn cd8 (fp7 3) v10 := by rw [hv_v10]; exact hwx rfl
      have hsz_fp7 := hsz
      have hsl_fp7 : (fp7 3).toInt ≤ (fp 3).toInt + 4 := by omega
      clear hsz
      have hw : pw D A s.heap H locs [wd_Exp cs he re eo ef ea eg, wd_Prg cs (re 2) rp (fun k => if k = 2 then of else none) fp7 (fun _ _ => 0) (fun _ _ => none), [((rp 1), .inl (cs 0, cn, .inl cd8))]] := hw
      have lv10 := Int32.le_toInt v10
      have uv10 := Int32.toInt_lt v10
      refine lv_goto (tgt := 43) S.x S.b d_Exp_shortcut_39 (by decide) ?_
      exact px_iret (v := v10) S hr rfl hlk hAe hw (Nat.le_of_ble_eq_true rfl) (Nat.le_of_ble_eq_true rfl) (⟨fp7, cd8, rfl, (show Prel cn (fp 3) cd (fp7 3) cd8 from hrel), (show (fp7 3).toInt ≤ (fp 3).toInt + 4 from by first | exact hsl_fp7 | omega), (show Wt cn cd8 (fp7 3) v10 from (by first | assumption | exact Wt.no rfl)), (show v10.toInt = -1 ∨ (fp 3).toInt ≤ v10.toInt from by omega), (show R_ex_shortcut cn p0 fp cd fp7 cd8 v10 from (Or.inl (Or.inl ⟨nc1, Or.inr ⟨nc3, fp7, cd8, v10, hR_fp7, rfl, rfl, rfl⟩⟩)))⟩) d_Exp_shortcut_43
  · have nc1 : p0.toInt = (136 : Int) := (i_eq (x := p0) (y := 136)).mp c1
    refine lv_aload_n S.x S.b d_Exp_shortcut_7 rfl (lv_at hl 0 rfl) ?_
    refine px_get S k_Exp hT hw 0 0 2 (v := .ref (re 2)) rfl rfl rfl (by decide) m2_133 d_Exp_shortcut_8 ?_
    refine lv_bipush (v := 18) S.x S.b d_Exp_shortcut_11 (by decide) ?_
    refine lv_iconst (v := (-1)) S.x S.b d_Exp_shortcut_13 (by decide) ?_
    refine lv_iconst (v := 0) S.x S.b d_Exp_shortcut_14 (by decide) ?_
    refine lv_iconst (v := 0) S.x S.b d_Exp_shortcut_15 (by decide) ?_
    refine px_calli (pr := [wd_Exp cs he re eo ef ea eg]) (px_runV (As := [.int 18, .int (-1), .int 0, .int 0]) (rest := []) S (c_pe_emit l D cs (re 2) rp of cn fp cd 18 (-1) 0 0  (show cn % 4 = 0 from by first | exact g0 | omega) (show cn ≤ 100000 from by first | exact g1 | omega) hrel.1 (jop_lk (by decide) (by first | exact lk_m1 | assumption | exact lk_mk (by omega))) _) hT (pr := [wd_Exp cs he re eo ef ea eg]) (pcs := [wd_Prg cs (re 2) rp (fun k => if k = 2 then of else none) fp (fun _ _ => 0) (fun _ _ => none), [((rp 1), .inl (cs 0, cn, .inl cd))]]) hw px_X.tt (px_recv hT hw 1 0 rfl rfl rfl) m4_181 m4_178 m4_179 m4_180 m1_16 q_Prg_emit ⟨Nat.le_of_ble_eq_true rfl, Nat.le_of_ble_eq_true rfl⟩ hl.1 rfl (Nat.le_of_ble_eq_true rfl) d_Exp_shortcut_16 ⟨Nat.le_of_ble_eq_true rfl, Nat.le_of_ble_eq_true rfl⟩) hw hA (fun v18 p17 H locs hp17 hw => ?_)
    obtain ⟨fp15, cd16, rfl, hv_v18, hem, hwx, hsz, k0fp15, k4fp15, k5fp15, hR_fp15⟩ := hp17
    have tv_v18 : v18.toInt = (fp 3).toInt := by rw [hv_v18]
    have pm19 := hem.2.1
    have hrel := hrel.tr hem
    have pz20 := hrel.nm
    have hwt_v18 : Wt cn cd16 (fp15 3) v18 := by rw [hv_v18]; exact hwx rfl
    have hsz_fp15 := hsz
    have hsl_fp15 : (fp15 3).toInt ≤ (fp 3).toInt + 4 := by omega
    clear hsz
    have hw : pw D A s.heap H locs [wd_Exp cs he re eo ef ea eg, wd_Prg cs (re 2) rp (fun k => if k = 2 then of else none) fp15 (fun _ _ => 0) (fun _ _ => none), [((rp 1), .inl (cs 0, cn, .inl cd16))]] := hw
    have lv18 := Int32.le_toInt v18
    have uv18 := Int32.toInt_lt v18
    exact px_iret (v := v18) S hr rfl hlk hAe hw (Nat.le_of_ble_eq_true rfl) (Nat.le_of_ble_eq_true rfl) (⟨fp15, cd16, rfl, (show Prel cn (fp 3) cd (fp15 3) cd16 from hrel), (show (fp15 3).toInt ≤ (fp 3).toInt + 4 from by first | exact hsl_fp15 | omega), (show Wt cn cd16 (fp15 3) v18 from (by first | assumption | exact Wt.no rfl)), (show v18.toInt = -1 ∨ (fp 3).toInt ≤ v18.toInt from by omega), (show R_ex_shortcut cn p0 fp cd fp15 cd16 v18 from (Or.inl (Or.inr ⟨nc1, fp15, cd16, v18, hR_fp15, rfl, rfl, rfl⟩)))⟩) d_Exp_shortcut_19
abbrev b_Exp_join : ByteArray := prog_3_method_9_code
def y_Exp_join : MethodName := ⟨"HomeSystem$Expressions", "join", "(II)V"⟩
theorem d_Exp_join_0 : decode b_Exp_join 0 = .ok (.iload_n 2, 1) := by decide +kernel
theorem d_Exp_join_1 : decode b_Exp_join 1 = .ok (.iconst (-1), 1) := by decide +kernel
theorem d_Exp_join_2 : decode b_Exp_join 2 = .ok (.if_icmp .ne 19, 3) := by decide +kernel
theorem d_Exp_join_5 : decode b_Exp_join 5 = .ok (.aload_n 0, 1) := by decide +kernel
theorem d_Exp_join_6 : decode b_Exp_join 6 = .ok (.getfield 19, 3) := by decide +kernel
theorem d_Exp_join_9 : decode b_Exp_join 9 = .ok (.bipush 7, 2) := by decide +kernel
theorem d_Exp_join_11 : decode b_Exp_join 11 = .ok (.iload_n 1, 1) := by decide +kernel
theorem d_Exp_join_12 : decode b_Exp_join 12 = .ok (.iconst 0, 1) := by decide +kernel
theorem d_Exp_join_13 : decode b_Exp_join 13 = .ok (.iconst 0, 1) := by decide +kernel
theorem d_Exp_join_14 : decode b_Exp_join 14 = .ok (.invokevirtual 106, 3) := by decide +kernel
theorem d_Exp_join_17 : decode b_Exp_join 17 = .ok (.pop, 1) := by decide +kernel
theorem d_Exp_join_18 : decode b_Exp_join 18 = .ok (.goto 31, 3) := by decide +kernel
theorem d_Exp_join_21 : decode b_Exp_join 21 = .ok (.aload_n 0, 1) := by decide +kernel
theorem d_Exp_join_22 : decode b_Exp_join 22 = .ok (.getfield 19, 3) := by decide +kernel
theorem d_Exp_join_25 : decode b_Exp_join 25 = .ok (.bipush 9, 2) := by decide +kernel
theorem d_Exp_join_27 : decode b_Exp_join 27 = .ok (.iconst 0, 1) := by decide +kernel
theorem d_Exp_join_28 : decode b_Exp_join 28 = .ok (.iconst 0, 1) := by decide +kernel
theorem d_Exp_join_29 : decode b_Exp_join 29 = .ok (.iconst 0, 1) := by decide +kernel
theorem d_Exp_join_30 : decode b_Exp_join 30 = .ok (.invokevirtual 106, 3) := by decide +kernel
theorem d_Exp_join_33 : decode b_Exp_join 33 = .ok (.pop, 1) := by decide +kernel
theorem d_Exp_join_34 : decode b_Exp_join 34 = .ok (.aload_n 0, 1) := by decide +kernel
theorem d_Exp_join_35 : decode b_Exp_join 35 = .ok (.getfield 19, 3) := by decide +kernel
theorem d_Exp_join_38 : decode b_Exp_join 38 = .ok (.iload_n 2, 1) := by decide +kernel
theorem d_Exp_join_39 : decode b_Exp_join 39 = .ok (.aload_n 0, 1) := by decide +kernel
theorem d_Exp_join_40 : decode b_Exp_join 40 = .ok (.getfield 19, 3) := by decide +kernel
theorem d_Exp_join_43 : decode b_Exp_join 43 = .ok (.getfield 112, 3) := by decide +kernel
theorem d_Exp_join_46 : decode b_Exp_join 46 = .ok (.invokevirtual 116, 3) := by decide +kernel
theorem d_Exp_join_49 : decode b_Exp_join 49 = .ok (.return_, 1) := by decide +kernel
theorem q_Exp_join : px_y y_Exp_join 2 := by unfold px_y; decide +kernel
set_option maxHeartbeats 4000000 in
set_option maxRecDepth 100000 in
theorem c_ex_join (l : Launch) (D : va_G) (cs : Nat → ClassId) (he : Nat) (re : Nat → Nat) (eo : Nat → Option Nat) (ef : Nat → Int32) (ea : Nat → Nat → Int32) (eg : Nat → Nat → Option Nat) (rp : Nat → Nat) (of : Option Nat) (cn : Nat) (fp : Nat → Int32) (cd : Nat → Int32) (p0 p1 : Int32) (z0 : Int32) (c0 : Nat → Int32) (g0 : cn % 4 = 0) (g1 : cn ≤ 100000) (g2 : p1.toInt = -1 ∨ z0.toInt ≤ p1.toInt) (hpk : Pok cn (fp 3) cd) (hr0 : Prel cn z0 c0 (fp 3) cd) (hwt : Wt cn cd (fp 3) p1) : MetV l y_Exp_join b_Exp_join 3 D cs 1 40 (0) (0) [.ref he, .int p0, .int p1] [wd_Exp cs he re eo ef ea eg, wd_Prg cs (re 2) rp (fun k => if k = 2 then of else none) fp (fun _ _ => 0) (fun _ _ => none), [((rp 1), .inl (cs 0, cn, .inl cd))]] (fun _ => True) (fun ps => ∃ (fp' : Nat → Int32) (cd' : Nat → Int32), (ps = [wd_Exp cs he re eo ef ea eg, wd_Prg cs (re 2) rp (fun k => if k = 2 then of else none) fp' (fun _ _ => 0) (fun _ _ => none), [((rp 1), .inl (cs 0, cn, .inl cd'))]]) ∧ (Prel cn z0 c0 (fp' 3) cd') ∧ ((fp' 3).toInt ≤ (fp 3).toInt + 4) ∧ (R_ex_join cn p0 p1 fp cd fp' cd')) := by
  refine px_enter (by decide) (Nat.le_of_ble_eq_true rfl) ?_
  intro p e s m below meth c A ls hAe S hr hlk hnm hA hT hX hw hl
  have hl : lv_has ls 3 [(0, .ref he), (1, .int p0), (2, .int p1)] := hl
  have lp0 := Int32.le_toInt p0
  have up0 := Int32.toInt_lt p0
  have lp1 := Int32.le_toInt p1
  have up1 := Int32.toInt_lt p1
  have cstm1 : ((-1) : Int32).toInt = (-1) := rfl
  have cst0 : (0 : Int32).toInt = 0 := rfl
  have cst7 : (7 : Int32).toInt = 7 := rfl
  have cst9 : (9 : Int32).toInt = 9 := rfl
  have hrel := Prel.rf hpk
  have pz0 := hrel.nm
  have hrel := hr0
  refine lv_iload_n S.x S.b d_Exp_join_0 rfl (lv_at hl 2 rfl) ?_
  refine lv_iconst (v := (-1)) S.x S.b d_Exp_join_1 (by decide) ?_
  refine lv_icmp_ne (tgt := 21) S.x S.b d_Exp_join_2 (by decide) (fun c1 => ?_) (fun c1 => ?_)
  · have nc1 : ¬ p1.toInt = (-1 : Int) := mt (i_eq (x := p1) (y := (-1))).mpr c1
    refine lv_aload_n S.x S.b d_Exp_join_21 rfl (lv_at hl 0 rfl) ?_
    refine px_get S k_Exp hT hw 0 0 2 (v := .ref (re 2)) rfl rfl rfl (by decide) m2_133 d_Exp_join_22 ?_
    refine lv_bipush (v := 9) S.x S.b d_Exp_join_25 (by decide) ?_
    refine lv_iconst (v := 0) S.x S.b d_Exp_join_27 (by decide) ?_
    refine lv_iconst (v := 0) S.x S.b d_Exp_join_28 (by decide) ?_
    refine lv_iconst (v := 0) S.x S.b d_Exp_join_29 (by decide) ?_
    refine px_calli (pr := [wd_Exp cs he re eo ef ea eg]) (px_runV (As := [.int 9, .int 0, .int 0, .int 0]) (rest := []) S (c_pe_emit l D cs (re 2) rp of cn fp cd 9 0 0 0  (show cn % 4 = 0 from by first | exact g0 | omega) (show cn ≤ 100000 from by first | exact g1 | omega) hrel.1 (jop_low (by decide)) _) hT (pr := [wd_Exp cs he re eo ef ea eg]) (pcs := [wd_Prg cs (re 2) rp (fun k => if k = 2 then of else none) fp (fun _ _ => 0) (fun _ _ => none), [((rp 1), .inl (cs 0, cn, .inl cd))]]) hw px_X.tt (px_recv hT hw 1 0 rfl rfl rfl) m4_181 m4_178 m4_179 m4_180 m1_16 q_Prg_emit ⟨Nat.le_of_ble_eq_true rfl, Nat.le_of_ble_eq_true rfl⟩ hl.1 rfl (Nat.le_of_ble_eq_true rfl) d_Exp_join_30 ⟨Nat.le_of_ble_eq_true rfl, Nat.le_of_ble_eq_true rfl⟩) hw hA (fun v8 p7 H locs hp7 hw => ?_)
    obtain ⟨fp5, cd6, rfl, hv_v8, hem, hwx, hsz, k0fp5, k4fp5, k5fp5, hR_fp5⟩ := hp7
    have tv_v8 : v8.toInt = (fp 3).toInt := by rw [hv_v8]
    have pm9 := hem.2.1
    have hrel := hrel.tr hem
    have pz10 := hrel.nm
    have hwt := hwt.kp hem
    have hsl_fp5 : (fp5 3).toInt ≤ (fp 3).toInt + 4 := by omega
    clear hsz
    have hw : pw D A s.heap H locs [wd_Exp cs he re eo ef ea eg, wd_Prg cs (re 2) rp (fun k => if k = 2 then of else none) fp5 (fun _ _ => 0) (fun _ _ => none), [((rp 1), .inl (cs 0, cn, .inl cd6))]] := hw
    have lv8 := Int32.le_toInt v8
    have uv8 := Int32.toInt_lt v8
    refine lv_pop S.x S.b d_Exp_join_33 rfl ?_
    refine lv_aload_n S.x S.b d_Exp_join_34 rfl (lv_at hl 0 rfl) ?_
    refine px_get S k_Exp hT hw 0 0 2 (v := .ref (re 2)) rfl rfl rfl (by decide) m2_133 d_Exp_join_35 ?_
    refine lv_iload_n S.x S.b d_Exp_join_38 rfl (lv_at hl 2 rfl) ?_
    refine lv_aload_n S.x S.b d_Exp_join_39 rfl (lv_at hl 0 rfl) ?_
    refine px_get S k_Exp hT hw 0 0 2 (v := .ref (re 2)) rfl rfl rfl (by decide) m2_133 d_Exp_join_40 ?_
    refine px_get S k_Prg hT hw 1 0 3 (v := .int (fp5 3)) rfl rfl rfl (by decide) m2_107 d_Exp_join_43 ?_
    refine px_callv (pr := [wd_Exp cs he re eo ef ea eg]) (px_runV (As := [.int p1, .int (fp5 3)]) (rest := []) S (c_pe_aim l D cs (re 2) rp of cn fp5 cd6 p1 (fp5 3)  (show cn % 4 = 0 from by first | exact g0 | omega) (show cn ≤ 100000 from by first | exact g1 | omega) (show 0 ≤ (fp5 3).toInt from by omega) (show (fp5 3).toInt % 4 = 0 from by omega) (show (fp5 3).toInt ≤ 100000 from by omega) hrel.1 hwt _) hT (pr := [wd_Exp cs he re eo ef ea eg]) (pcs := [wd_Prg cs (re 2) rp (fun k => if k = 2 then of else none) fp5 (fun _ _ => 0) (fun _ _ => none), [((rp 1), .inl (cs 0, cn, .inl cd6))]]) hw px_X.tt (px_recv hT hw 1 0 rfl rfl rfl) m5_88 m5_85 m5_86 m5_87 m1_16 q_Prg_aim ⟨Nat.le_of_ble_eq_true rfl, Nat.le_of_ble_eq_true rfl⟩ hl.1 rfl (Nat.le_of_ble_eq_true rfl) d_Exp_join_46 ⟨Nat.le_of_ble_eq_true rfl, Nat.le_of_ble_eq_true rfl⟩) hw hA (fun p14 H locs hp14 hw => ?_)
    obtain ⟨cd13, rfl, ham, hR_cd13⟩ := hp14
    have hrel := hrel.am ham (by omega)
    have hw : pw D A s.heap H locs [wd_Exp cs he re eo ef ea eg, wd_Prg cs (re 2) rp (fun k => if k = 2 then of else none) fp5 (fun _ _ => 0) (fun _ _ => none), [((rp 1), .inl (cs 0, cn, .inl cd13))]] := hw
    exact px_vret S hr hlk hAe hw (Nat.le_of_ble_eq_true rfl) (Nat.le_of_ble_eq_true rfl) (⟨fp5, cd13, rfl, (show Prel cn z0 c0 (fp5 3) cd13 from hrel), (show (fp5 3).toInt ≤ (fp 3).toInt + 4 from by first | exact hsl_fp5 | omega), (show R_ex_join cn p0 p1 fp cd fp5 cd13 from (Or.inl (Or.inl ⟨nc1, fp5, cd6, v8, hR_fp5, cd13, hR_cd13, rfl, rfl⟩)))⟩) d_Exp_join_49
  · have nc1 : p1.toInt = (-1 : Int) := (i_eq (x := p1) (y := (-1))).mp c1
    refine lv_aload_n S.x S.b d_Exp_join_5 rfl (lv_at hl 0 rfl) ?_
    refine px_get S k_Exp hT hw 0 0 2 (v := .ref (re 2)) rfl rfl rfl (by decide) m2_133 d_Exp_join_6 ?_
    refine lv_bipush (v := 7) S.x S.b d_Exp_join_9 (by decide) ?_
    refine lv_iload_n S.x S.b d_Exp_join_11 rfl (lv_at hl 1 rfl) ?_
    refine lv_iconst (v := 0) S.x S.b d_Exp_join_12 (by decide) ?_
    refine lv_iconst (v := 0) S.x S.b d_Exp_join_13 (by decide) ?_
    refine px_calli (pr := [wd_Exp cs he re eo ef ea eg]) (px_runV (As := [.int 7, .int p0, .int 0, .int 0]) (rest := []) S (c_pe_emit l D cs (re 2) rp of cn fp cd 7 p0 0 0  (show cn % 4 = 0 from by first | exact g0 | omega) (show cn ≤ 100000 from by first | exact g1 | omega) hrel.1 (jop_low (by decide)) _) hT (pr := [wd_Exp cs he re eo ef ea eg]) (pcs := [wd_Prg cs (re 2) rp (fun k => if k = 2 then of else none) fp (fun _ _ => 0) (fun _ _ => none), [((rp 1), .inl (cs 0, cn, .inl cd))]]) hw px_X.tt (px_recv hT hw 1 0 rfl rfl rfl) m4_181 m4_178 m4_179 m4_180 m1_16 q_Prg_emit ⟨Nat.le_of_ble_eq_true rfl, Nat.le_of_ble_eq_true rfl⟩ hl.1 rfl (Nat.le_of_ble_eq_true rfl) d_Exp_join_14 ⟨Nat.le_of_ble_eq_true rfl, Nat.le_of_ble_eq_true rfl⟩) hw hA (fun v21 p20 H locs hp20 hw => ?_)
    obtain ⟨fp18, cd19, rfl, hv_v21, hem, hwx, hsz, k0fp18, k4fp18, k5fp18, hR_fp18⟩ := hp20
    have tv_v21 : v21.toInt = (fp 3).toInt := by rw [hv_v21]
    have pm22 := hem.2.1
    have hrel := hrel.tr hem
    have pz23 := hrel.nm
    have hwt := hwt.kp hem
    have hsl_fp18 : (fp18 3).toInt ≤ (fp 3).toInt + 4 := by omega
    clear hsz
    have hw : pw D A s.heap H locs [wd_Exp cs he re eo ef ea eg, wd_Prg cs (re 2) rp (fun k => if k = 2 then of else none) fp18 (fun _ _ => 0) (fun _ _ => none), [((rp 1), .inl (cs 0, cn, .inl cd19))]] := hw
    have lv21 := Int32.le_toInt v21
    have uv21 := Int32.toInt_lt v21
    refine lv_pop S.x S.b d_Exp_join_17 rfl ?_
    refine lv_goto (tgt := 49) S.x S.b d_Exp_join_18 (by decide) ?_
    exact px_vret S hr hlk hAe hw (Nat.le_of_ble_eq_true rfl) (Nat.le_of_ble_eq_true rfl) (⟨fp18, cd19, rfl, (show Prel cn z0 c0 (fp18 3) cd19 from hrel), (show (fp18 3).toInt ≤ (fp 3).toInt + 4 from by first | exact hsl_fp18 | omega), (show R_ex_join cn p0 p1 fp cd fp18 cd19 from (Or.inl (Or.inr ⟨nc1, fp18, cd19, v21, hR_fp18, rfl, rfl⟩)))⟩) d_Exp_join_49
abbrev b_Exp_foldLogic : ByteArray := prog_3_method_11_code
def y_Exp_foldLogic : MethodName := ⟨"HomeSystem$Expressions", "foldLogic", "(LHomeSystem$Operand;ZLHomeSystem$Operand;)V"⟩
theorem d_Exp_foldLogic_0 : decode b_Exp_foldLogic 0 = .ok (.aload_n 0, 1) := by decide +kernel
theorem d_Exp_foldLogic_1 : decode b_Exp_foldLogic 1 = .ok (.getfield 113, 3) := by decide +kernel
theorem d_Exp_foldLogic_4 : decode b_Exp_foldLogic 4 = .ok (.ifCond .eq 4, 3) := by decide +kernel
theorem d_Exp_foldLogic_7 : decode b_Exp_foldLogic 7 = .ok (.return_, 1) := by decide +kernel
theorem d_Exp_foldLogic_8 : decode b_Exp_foldLogic 8 = .ok (.aload_n 0, 1) := by decide +kernel
theorem d_Exp_foldLogic_9 : decode b_Exp_foldLogic 9 = .ok (.getfield 123, 3) := by decide +kernel
theorem d_Exp_foldLogic_12 : decode b_Exp_foldLogic 12 = .ok (.ifCond .eq 7, 3) := by decide +kernel
theorem d_Exp_foldLogic_15 : decode b_Exp_foldLogic 15 = .ok (.iconst 1, 1) := by decide +kernel
theorem d_Exp_foldLogic_16 : decode b_Exp_foldLogic 16 = .ok (.goto 4, 3) := by decide +kernel
theorem d_Exp_foldLogic_19 : decode b_Exp_foldLogic 19 = .ok (.iconst 0, 1) := by decide +kernel
theorem d_Exp_foldLogic_20 : decode b_Exp_foldLogic 20 = .ok (.iload_n 1, 1) := by decide +kernel
theorem d_Exp_foldLogic_21 : decode b_Exp_foldLogic 21 = .ok (.if_icmp .ne 19, 3) := by decide +kernel
theorem d_Exp_foldLogic_24 : decode b_Exp_foldLogic 24 = .ok (.aload_n 0, 1) := by decide +kernel
theorem d_Exp_foldLogic_25 : decode b_Exp_foldLogic 25 = .ok (.iload_n 1, 1) := by decide +kernel
theorem d_Exp_foldLogic_26 : decode b_Exp_foldLogic 26 = .ok (.ifCond .eq 7, 3) := by decide +kernel
theorem d_Exp_foldLogic_29 : decode b_Exp_foldLogic 29 = .ok (.iconst 1, 1) := by decide +kernel
theorem d_Exp_foldLogic_30 : decode b_Exp_foldLogic 30 = .ok (.goto 4, 3) := by decide +kernel
theorem d_Exp_foldLogic_33 : decode b_Exp_foldLogic 33 = .ok (.iconst 0, 1) := by decide +kernel
theorem d_Exp_foldLogic_34 : decode b_Exp_foldLogic 34 = .ok (.putfield 123, 3) := by decide +kernel
theorem d_Exp_foldLogic_37 : decode b_Exp_foldLogic 37 = .ok (.goto 27, 3) := by decide +kernel
theorem d_Exp_foldLogic_40 : decode b_Exp_foldLogic 40 = .ok (.aload_n 0, 1) := by decide +kernel
theorem d_Exp_foldLogic_41 : decode b_Exp_foldLogic 41 = .ok (.aload_n 2, 1) := by decide +kernel
theorem d_Exp_foldLogic_42 : decode b_Exp_foldLogic 42 = .ok (.getfield 113, 3) := by decide +kernel
theorem d_Exp_foldLogic_45 : decode b_Exp_foldLogic 45 = .ok (.putfield 113, 3) := by decide +kernel
theorem d_Exp_foldLogic_48 : decode b_Exp_foldLogic 48 = .ok (.aload_n 0, 1) := by decide +kernel
theorem d_Exp_foldLogic_49 : decode b_Exp_foldLogic 49 = .ok (.aload_n 2, 1) := by decide +kernel
theorem d_Exp_foldLogic_50 : decode b_Exp_foldLogic 50 = .ok (.getfield 123, 3) := by decide +kernel
theorem d_Exp_foldLogic_53 : decode b_Exp_foldLogic 53 = .ok (.ifCond .eq 7, 3) := by decide +kernel
theorem d_Exp_foldLogic_56 : decode b_Exp_foldLogic 56 = .ok (.iconst 1, 1) := by decide +kernel
theorem d_Exp_foldLogic_57 : decode b_Exp_foldLogic 57 = .ok (.goto 4, 3) := by decide +kernel
theorem d_Exp_foldLogic_60 : decode b_Exp_foldLogic 60 = .ok (.iconst 0, 1) := by decide +kernel
theorem d_Exp_foldLogic_61 : decode b_Exp_foldLogic 61 = .ok (.putfield 123, 3) := by decide +kernel
theorem d_Exp_foldLogic_64 : decode b_Exp_foldLogic 64 = .ok (.return_, 1) := by decide +kernel
theorem q_Exp_foldLogic : px_y y_Exp_foldLogic 3 := by unfold px_y; decide +kernel
set_option maxHeartbeats 4000000 in
set_option maxRecDepth 100000 in
theorem c_ex_foldLogic (l : Launch) (D : va_G) (cs : Nat → ClassId) (hx : Nat) (ox : Option Nat) (fx : Nat → Int32) (hy : Nat) (oy : Option Nat) (fy : Nat → Int32) (p0 : Int32)   : MetV l y_Exp_foldLogic b_Exp_foldLogic 3 D cs 0 0 (0) (0) [.ref hx, .int p0, .ref hy] [wd_Opd cs hx (fun _ => 0) (fun k => if k = 4 then ox else none) fx (fun _ _ => 0) (fun _ _ => none), wd_Opd cs hy (fun _ => 0) (fun k => if k = 4 then oy else none) fy (fun _ _ => 0) (fun _ _ => none)] (fun _ => True) (fun ps => ∃ (fx' : Nat → Int32), (ps = [wd_Opd cs hx (fun _ => 0) (fun k => if k = 4 then ox else none) fx' (fun _ _ => 0) (fun _ _ => none), wd_Opd cs hy (fun _ => 0) (fun k => if k = 4 then oy else none) fy (fun _ _ => 0) (fun _ _ => none)]) ∧ ((fx' 0).toInt = (fx 0).toInt) ∧ ((fx' 3).toInt = (fx 3).toInt) ∧ ((fx' 5).toInt = (fx 5).toInt) ∧ (R_ex_foldLogic fy p0 fx fx')) := by
  refine px_enter (by decide) (Nat.le_of_ble_eq_true rfl) ?_
  intro p e s m below meth c A ls hAe S hr hlk hnm hA hT hX hw hl
  have hl : lv_has ls 3 [(0, .ref hx), (1, .int p0), (2, .ref hy)] := hl
  have lp0 := Int32.le_toInt p0
  have up0 := Int32.toInt_lt p0
  have cst0 : (0 : Int32).toInt = 0 := rfl
  have cst1 : (1 : Int32).toInt = 1 := rfl
  refine lv_aload_n S.x S.b d_Exp_foldLogic_0 rfl (lv_at hl 0 rfl) ?_
  refine px_get S k_Opd hT hw 0 0 2 (v := .int (fx 2)) rfl rfl rfl (by decide) m4_223 d_Exp_foldLogic_1 ?_
  refine lv_if_eq (tgt := 8) S.x S.b d_Exp_foldLogic_4 (by decide) (fun c1 => ?_) (fun c1 => ?_)
  · have nc1 : (fx 2).toInt = (0 : Int) := (i_eq (x := (fx 2)) (y := 0)).mp c1
    refine lv_aload_n S.x S.b d_Exp_foldLogic_8 rfl (lv_at hl 0 rfl) ?_
    refine px_get S k_Opd hT hw 0 0 8 (v := .int (fx 8)) rfl rfl rfl (by decide) m4_235 d_Exp_foldLogic_9 ?_
    refine lv_if_eq (tgt := 19) S.x S.b d_Exp_foldLogic_12 (by decide) (fun c3 => ?_) (fun c3 => ?_)
    · have nc3 : (fx 8).toInt = (0 : Int) := (i_eq (x := (fx 8)) (y := 0)).mp c3
      refine lv_iconst (v := 0) S.x S.b d_Exp_foldLogic_19 (by decide) ?_
      refine lv_iload_n S.x S.b d_Exp_foldLogic_20 rfl (lv_at hl 1 rfl) ?_
      refine lv_icmp_ne (tgt := 40) S.x S.b d_Exp_foldLogic_21 (by decide) (fun c5 => ?_) (fun c5 => ?_)
      · have nc5 : ¬ (0 : Int) = p0.toInt := mt (i_eq (x := 0) (y := p0)).mpr c5
        refine lv_aload_n S.x S.b d_Exp_foldLogic_40 rfl (lv_at hl 0 rfl) ?_
        refine lv_aload_n S.x S.b d_Exp_foldLogic_41 rfl (lv_at hl 2 rfl) ?_
        refine px_get S k_Opd hT hw 1 0 2 (v := .int (fy 2)) rfl rfl rfl (by decide) m4_223 d_Exp_foldLogic_42 ?_
        refine px_put S k_Opd hT hw 0 0 2 rfl rfl (by decide) m4_223 rfl rfl rfl (Nat.le_of_ble_eq_true rfl) d_Exp_foldLogic_45 (w' := wd_Opd cs hx (fun _ => 0) (fun k => if k = 4 then ox else none) (upd fx 2 (fy 2)) (fun _ _ => 0) (fun _ _ => none)) (ps' := [wd_Opd cs hx (fun _ => 0) (fun k => if k = 4 then ox else none) (upd fx 2 (fy 2)) (fun _ _ => 0) (fun _ _ => none), wd_Opd cs hy (fun _ => 0) (fun k => if k = 4 then oy else none) fy (fun _ _ => 0) (fun _ _ => none)]) rfl rfl (fun H locs hw => ?_)
        refine lv_aload_n S.x S.b d_Exp_foldLogic_48 rfl (lv_at hl 0 rfl) ?_
        refine lv_aload_n S.x S.b d_Exp_foldLogic_49 rfl (lv_at hl 2 rfl) ?_
        refine px_get S k_Opd hT hw 1 0 8 (v := .int (fy 8)) rfl rfl rfl (by decide) m4_235 d_Exp_foldLogic_50 ?_
        refine lv_if_eq (tgt := 60) S.x S.b d_Exp_foldLogic_53 (by decide) (fun c7 => ?_) (fun c7 => ?_)
        · have nc7 : (fy 8).toInt = (0 : Int) := (i_eq (x := (fy 8)) (y := 0)).mp c7
          refine lv_iconst (v := 0) S.x S.b d_Exp_foldLogic_60 (by decide) ?_
          refine px_put S k_Opd hT hw 0 0 8 rfl rfl (by decide) m4_235 rfl rfl rfl (Nat.le_of_ble_eq_true rfl) d_Exp_foldLogic_61 (w' := wd_Opd cs hx (fun _ => 0) (fun k => if k = 4 then ox else none) (upd (upd fx 2 (fy 2)) 8 0) (fun _ _ => 0) (fun _ _ => none)) (ps' := [wd_Opd cs hx (fun _ => 0) (fun k => if k = 4 then ox else none) (upd (upd fx 2 (fy 2)) 8 0) (fun _ _ => 0) (fun _ _ => none), wd_Opd cs hy (fun _ => 0) (fun k => if k = 4 then oy else none) fy (fun _ _ => 0) (fun _ _ => none)]) rfl rfl (fun H locs hw => ?_)
          exact px_vret S hr hlk hAe hw (Nat.le_of_ble_eq_true rfl) (Nat.le_of_ble_eq_true rfl) (⟨(upd (upd fx 2 (fy 2)) 8 0), rfl, (show (fx 0).toInt = (fx 0).toInt from rfl), (show (fx 3).toInt = (fx 3).toInt from rfl), (show (fx 5).toInt = (fx 5).toInt from rfl), (show R_ex_foldLogic fy p0 fx (upd (upd fx 2 (fy 2)) 8 0) from (Or.inl (Or.inl ⟨nc1, Or.inl ⟨nc3, Or.inl ⟨nc5, Or.inl ⟨nc7, rfl⟩⟩⟩⟩)))⟩) d_Exp_foldLogic_64
        · have nc7 : ¬ (fy 8).toInt = (0 : Int) := mt (i_eq (x := (fy 8)) (y := 0)).mpr c7
          refine lv_iconst (v := 1) S.x S.b d_Exp_foldLogic_56 (by decide) ?_
          refine lv_goto (tgt := 61) S.x S.b d_Exp_foldLogic_57 (by decide) ?_
          refine px_put S k_Opd hT hw 0 0 8 rfl rfl (by decide) m4_235 rfl rfl rfl (Nat.le_of_ble_eq_true rfl) d_Exp_foldLogic_61 (w' := wd_Opd cs hx (fun _ => 0) (fun k => if k = 4 then ox else none) (upd (upd fx 2 (fy 2)) 8 1) (fun _ _ => 0) (fun _ _ => none)) (ps' := [wd_Opd cs hx (fun _ => 0) (fun k => if k = 4 then ox else none) (upd (upd fx 2 (fy 2)) 8 1) (fun _ _ => 0) (fun _ _ => none), wd_Opd cs hy (fun _ => 0) (fun k => if k = 4 then oy else none) fy (fun _ _ => 0) (fun _ _ => none)]) rfl rfl (fun H locs hw => ?_)
          exact px_vret S hr hlk hAe hw (Nat.le_of_ble_eq_true rfl) (Nat.le_of_ble_eq_true rfl) (⟨(upd (upd fx 2 (fy 2)) 8 1), rfl, (show (fx 0).toInt = (fx 0).toInt from rfl), (show (fx 3).toInt = (fx 3).toInt from rfl), (show (fx 5).toInt = (fx 5).toInt from rfl), (show R_ex_foldLogic fy p0 fx (upd (upd fx 2 (fy 2)) 8 1) from (Or.inl (Or.inl ⟨nc1, Or.inl ⟨nc3, Or.inl ⟨nc5, Or.inr ⟨nc7, rfl⟩⟩⟩⟩)))⟩) d_Exp_foldLogic_64
      · have nc5 : (0 : Int) = p0.toInt := (i_eq (x := 0) (y := p0)).mp c5
        refine lv_aload_n S.x S.b d_Exp_foldLogic_24 rfl (lv_at hl 0 rfl) ?_
        refine lv_iload_n S.x S.b d_Exp_foldLogic_25 rfl (lv_at hl 1 rfl) ?_
        refine lv_if_eq (tgt := 33) S.x S.b d_Exp_foldLogic_26 (by decide) (fun c9 => ?_) (fun c9 => ?_)
        · have nc9 : p0.toInt = (0 : Int) := (i_eq (x := p0) (y := 0)).mp c9
          refine lv_iconst (v := 0) S.x S.b d_Exp_foldLogic_33 (by decide) ?_
          refine px_put S k_Opd hT hw 0 0 8 rfl rfl (by decide) m4_235 rfl rfl rfl (Nat.le_of_ble_eq_true rfl) d_Exp_foldLogic_34 (w' := wd_Opd cs hx (fun _ => 0) (fun k => if k = 4 then ox else none) (upd fx 8 0) (fun _ _ => 0) (fun _ _ => none)) (ps' := [wd_Opd cs hx (fun _ => 0) (fun k => if k = 4 then ox else none) (upd fx 8 0) (fun _ _ => 0) (fun _ _ => none), wd_Opd cs hy (fun _ => 0) (fun k => if k = 4 then oy else none) fy (fun _ _ => 0) (fun _ _ => none)]) rfl rfl (fun H locs hw => ?_)
          refine lv_goto (tgt := 64) S.x S.b d_Exp_foldLogic_37 (by decide) ?_
          exact px_vret S hr hlk hAe hw (Nat.le_of_ble_eq_true rfl) (Nat.le_of_ble_eq_true rfl) (⟨(upd fx 8 0), rfl, (show (fx 0).toInt = (fx 0).toInt from rfl), (show (fx 3).toInt = (fx 3).toInt from rfl), (show (fx 5).toInt = (fx 5).toInt from rfl), (show R_ex_foldLogic fy p0 fx (upd fx 8 0) from (Or.inl (Or.inl ⟨nc1, Or.inl ⟨nc3, Or.inr ⟨nc5, Or.inl ⟨nc9, rfl⟩⟩⟩⟩)))⟩) d_Exp_foldLogic_64
        · have nc9 : ¬ p0.toInt = (0 : Int) := mt (i_eq (x := p0) (y := 0)).mpr c9
          refine lv_iconst (v := 1) S.x S.b d_Exp_foldLogic_29 (by decide) ?_
          refine lv_goto (tgt := 34) S.x S.b d_Exp_foldLogic_30 (by decide) ?_
          refine px_put S k_Opd hT hw 0 0 8 rfl rfl (by decide) m4_235 rfl rfl rfl (Nat.le_of_ble_eq_true rfl) d_Exp_foldLogic_34 (w' := wd_Opd cs hx (fun _ => 0) (fun k => if k = 4 then ox else none) (upd fx 8 1) (fun _ _ => 0) (fun _ _ => none)) (ps' := [wd_Opd cs hx (fun _ => 0) (fun k => if k = 4 then ox else none) (upd fx 8 1) (fun _ _ => 0) (fun _ _ => none), wd_Opd cs hy (fun _ => 0) (fun k => if k = 4 then oy else none) fy (fun _ _ => 0) (fun _ _ => none)]) rfl rfl (fun H locs hw => ?_)
          refine lv_goto (tgt := 64) S.x S.b d_Exp_foldLogic_37 (by decide) ?_
          exact px_vret S hr hlk hAe hw (Nat.le_of_ble_eq_true rfl) (Nat.le_of_ble_eq_true rfl) (⟨(upd fx 8 1), rfl, (show (fx 0).toInt = (fx 0).toInt from rfl), (show (fx 3).toInt = (fx 3).toInt from rfl), (show (fx 5).toInt = (fx 5).toInt from rfl), (show R_ex_foldLogic fy p0 fx (upd fx 8 1) from (Or.inl (Or.inl ⟨nc1, Or.inl ⟨nc3, Or.inr ⟨nc5, Or.inr ⟨nc9, rfl⟩⟩⟩⟩)))⟩) d_Exp_foldLogic_64
    · have nc3 : ¬ (fx 8).toInt = (0 : Int) := mt (i_eq (x := (fx 8)) (y := 0)).mpr c3
      refine lv_iconst (v := 1) S.x S.b d_Exp_foldLogic_15 (by decide) ?_
      refine lv_goto (tgt := 20) S.x S.b d_Exp_foldLogic_16 (by decide) ?_
      refine lv_iload_n S.x S.b d_Exp_foldLogic_20 rfl (lv_at hl 1 rfl) ?_
      refine lv_icmp_ne (tgt := 40) S.x S.b d_Exp_foldLogic_21 (by decide) (fun c11 => ?_) (fun c11 => ?_)
      · have nc11 : ¬ (1 : Int) = p0.toInt := mt (i_eq (x := 1) (y := p0)).mpr c11
        refine lv_aload_n S.x S.b d_Exp_foldLogic_40 rfl (lv_at hl 0 rfl) ?_
        refine lv_aload_n S.x S.b d_Exp_foldLogic_41 rfl (lv_at hl 2 rfl) ?_
        refine px_get S k_Opd hT hw 1 0 2 (v := .int (fy 2)) rfl rfl rfl (by decide) m4_223 d_Exp_foldLogic_42 ?_
        refine px_put S k_Opd hT hw 0 0 2 rfl rfl (by decide) m4_223 rfl rfl rfl (Nat.le_of_ble_eq_true rfl) d_Exp_foldLogic_45 (w' := wd_Opd cs hx (fun _ => 0) (fun k => if k = 4 then ox else none) (upd fx 2 (fy 2)) (fun _ _ => 0) (fun _ _ => none)) (ps' := [wd_Opd cs hx (fun _ => 0) (fun k => if k = 4 then ox else none) (upd fx 2 (fy 2)) (fun _ _ => 0) (fun _ _ => none), wd_Opd cs hy (fun _ => 0) (fun k => if k = 4 then oy else none) fy (fun _ _ => 0) (fun _ _ => none)]) rfl rfl (fun H locs hw => ?_)
        refine lv_aload_n S.x S.b d_Exp_foldLogic_48 rfl (lv_at hl 0 rfl) ?_
        refine lv_aload_n S.x S.b d_Exp_foldLogic_49 rfl (lv_at hl 2 rfl) ?_
        refine px_get S k_Opd hT hw 1 0 8 (v := .int (fy 8)) rfl rfl rfl (by decide) m4_235 d_Exp_foldLogic_50 ?_
        refine lv_if_eq (tgt := 60) S.x S.b d_Exp_foldLogic_53 (by decide) (fun c13 => ?_) (fun c13 => ?_)
        · have nc13 : (fy 8).toInt = (0 : Int) := (i_eq (x := (fy 8)) (y := 0)).mp c13
          refine lv_iconst (v := 0) S.x S.b d_Exp_foldLogic_60 (by decide) ?_
          refine px_put S k_Opd hT hw 0 0 8 rfl rfl (by decide) m4_235 rfl rfl rfl (Nat.le_of_ble_eq_true rfl) d_Exp_foldLogic_61 (w' := wd_Opd cs hx (fun _ => 0) (fun k => if k = 4 then ox else none) (upd (upd fx 2 (fy 2)) 8 0) (fun _ _ => 0) (fun _ _ => none)) (ps' := [wd_Opd cs hx (fun _ => 0) (fun k => if k = 4 then ox else none) (upd (upd fx 2 (fy 2)) 8 0) (fun _ _ => 0) (fun _ _ => none), wd_Opd cs hy (fun _ => 0) (fun k => if k = 4 then oy else none) fy (fun _ _ => 0) (fun _ _ => none)]) rfl rfl (fun H locs hw => ?_)
          exact px_vret S hr hlk hAe hw (Nat.le_of_ble_eq_true rfl) (Nat.le_of_ble_eq_true rfl) (⟨(upd (upd fx 2 (fy 2)) 8 0), rfl, (show (fx 0).toInt = (fx 0).toInt from rfl), (show (fx 3).toInt = (fx 3).toInt from rfl), (show (fx 5).toInt = (fx 5).toInt from rfl), (show R_ex_foldLogic fy p0 fx (upd (upd fx 2 (fy 2)) 8 0) from (Or.inl (Or.inl ⟨nc1, Or.inr ⟨nc3, Or.inl ⟨nc11, Or.inl ⟨nc13, rfl⟩⟩⟩⟩)))⟩) d_Exp_foldLogic_64
        · have nc13 : ¬ (fy 8).toInt = (0 : Int) := mt (i_eq (x := (fy 8)) (y := 0)).mpr c13
          refine lv_iconst (v := 1) S.x S.b d_Exp_foldLogic_56 (by decide) ?_
          refine lv_goto (tgt := 61) S.x S.b d_Exp_foldLogic_57 (by decide) ?_
          refine px_put S k_Opd hT hw 0 0 8 rfl rfl (by decide) m4_235 rfl rfl rfl (Nat.le_of_ble_eq_true rfl) d_Exp_foldLogic_61 (w' := wd_Opd cs hx (fun _ => 0) (fun k => if k = 4 then ox else none) (upd (upd fx 2 (fy 2)) 8 1) (fun _ _ => 0) (fun _ _ => none)) (ps' := [wd_Opd cs hx (fun _ => 0) (fun k => if k = 4 then ox else none) (upd (upd fx 2 (fy 2)) 8 1) (fun _ _ => 0) (fun _ _ => none), wd_Opd cs hy (fun _ => 0) (fun k => if k = 4 then oy else none) fy (fun _ _ => 0) (fun _ _ => none)]) rfl rfl (fun H locs hw => ?_)
          exact px_vret S hr hlk hAe hw (Nat.le_of_ble_eq_true rfl) (Nat.le_of_ble_eq_true rfl) (⟨(upd (upd fx 2 (fy 2)) 8 1), rfl, (show (fx 0).toInt = (fx 0).toInt from rfl), (show (fx 3).toInt = (fx 3).toInt from rfl), (show (fx 5).toInt = (fx 5).toInt from rfl), (show R_ex_foldLogic fy p0 fx (upd (upd fx 2 (fy 2)) 8 1) from (Or.inl (Or.inl ⟨nc1, Or.inr ⟨nc3, Or.inl ⟨nc11, Or.inr ⟨nc13, rfl⟩⟩⟩⟩)))⟩) d_Exp_foldLogic_64
      · have nc11 : (1 : Int) = p0.toInt := (i_eq (x := 1) (y := p0)).mp c11
        refine lv_aload_n S.x S.b d_Exp_foldLogic_24 rfl (lv_at hl 0 rfl) ?_
        refine lv_iload_n S.x S.b d_Exp_foldLogic_25 rfl (lv_at hl 1 rfl) ?_
        refine lv_if_eq (tgt := 33) S.x S.b d_Exp_foldLogic_26 (by decide) (fun c15 => ?_) (fun c15 => ?_)
        · have nc15 : p0.toInt = (0 : Int) := (i_eq (x := p0) (y := 0)).mp c15
          refine lv_iconst (v := 0) S.x S.b d_Exp_foldLogic_33 (by decide) ?_
          refine px_put S k_Opd hT hw 0 0 8 rfl rfl (by decide) m4_235 rfl rfl rfl (Nat.le_of_ble_eq_true rfl) d_Exp_foldLogic_34 (w' := wd_Opd cs hx (fun _ => 0) (fun k => if k = 4 then ox else none) (upd fx 8 0) (fun _ _ => 0) (fun _ _ => none)) (ps' := [wd_Opd cs hx (fun _ => 0) (fun k => if k = 4 then ox else none) (upd fx 8 0) (fun _ _ => 0) (fun _ _ => none), wd_Opd cs hy (fun _ => 0) (fun k => if k = 4 then oy else none) fy (fun _ _ => 0) (fun _ _ => none)]) rfl rfl (fun H locs hw => ?_)
          refine lv_goto (tgt := 64) S.x S.b d_Exp_foldLogic_37 (by decide) ?_
          exact px_vret S hr hlk hAe hw (Nat.le_of_ble_eq_true rfl) (Nat.le_of_ble_eq_true rfl) (⟨(upd fx 8 0), rfl, (show (fx 0).toInt = (fx 0).toInt from rfl), (show (fx 3).toInt = (fx 3).toInt from rfl), (show (fx 5).toInt = (fx 5).toInt from rfl), (show R_ex_foldLogic fy p0 fx (upd fx 8 0) from (Or.inl (Or.inl ⟨nc1, Or.inr ⟨nc3, Or.inr ⟨nc11, Or.inl ⟨nc15, rfl⟩⟩⟩⟩)))⟩) d_Exp_foldLogic_64
        · have nc15 : ¬ p0.toInt = (0 : Int) := mt (i_eq (x := p0) (y := 0)).mpr c15
          refine lv_iconst (v := 1) S.x S.b d_Exp_foldLogic_29 (by decide) ?_
          refine lv_goto (tgt := 34) S.x S.b d_Exp_foldLogic_30 (by decide) ?_
          refine px_put S k_Opd hT hw 0 0 8 rfl rfl (by decide) m4_235 rfl rfl rfl (Nat.le_of_ble_eq_true rfl) d_Exp_foldLogic_34 (w' := wd_Opd cs hx (fun _ => 0) (fun k => if k = 4 then ox else none) (upd fx 8 1) (fun _ _ => 0) (fun _ _ => none)) (ps' := [wd_Opd cs hx (fun _ => 0) (fun k => if k = 4 then ox else none) (upd fx 8 1) (fun _ _ => 0) (fun _ _ => none), wd_Opd cs hy (fun _ => 0) (fun k => if k = 4 then oy else none) fy (fun _ _ => 0) (fun _ _ => none)]) rfl rfl (fun H locs hw => ?_)
          refine lv_goto (tgt := 64) S.x S.b d_Exp_foldLogic_37 (by decide) ?_
          exact px_vret S hr hlk hAe hw (Nat.le_of_ble_eq_true rfl) (Nat.le_of_ble_eq_true rfl) (⟨(upd fx 8 1), rfl, (show (fx 0).toInt = (fx 0).toInt from rfl), (show (fx 3).toInt = (fx 3).toInt from rfl), (show (fx 5).toInt = (fx 5).toInt from rfl), (show R_ex_foldLogic fy p0 fx (upd fx 8 1) from (Or.inl (Or.inl ⟨nc1, Or.inr ⟨nc3, Or.inr ⟨nc11, Or.inr ⟨nc15, rfl⟩⟩⟩⟩)))⟩) d_Exp_foldLogic_64
  · have nc1 : ¬ (fx 2).toInt = (0 : Int) := mt (i_eq (x := (fx 2)) (y := 0)).mpr c1
    exact px_vret S hr hlk hAe hw (Nat.le_of_ble_eq_true rfl) (Nat.le_of_ble_eq_true rfl) (⟨fx, rfl, (show (fx 0).toInt = (fx 0).toInt from rfl), (show (fx 3).toInt = (fx 3).toInt from rfl), (show (fx 5).toInt = (fx 5).toInt from rfl), (show R_ex_foldLogic fy p0 fx fx from (Or.inl (Or.inr ⟨nc1, rfl⟩)))⟩) d_Exp_foldLogic_7
abbrev b_Exp_fold : ByteArray := prog_3_method_10_code
def y_Exp_fold : MethodName := ⟨"HomeSystem$Expressions", "fold", "(LHomeSystem$Operand;ILHomeSystem$Operand;)V"⟩
theorem d_Exp_fold_0 : decode b_Exp_fold 0 = .ok (.aload_n 0, 1) := by decide +kernel
theorem d_Exp_fold_1 : decode b_Exp_fold 1 = .ok (.getfield 113, 3) := by decide +kernel
theorem d_Exp_fold_4 : decode b_Exp_fold 4 = .ok (.iconst 3, 1) := by decide +kernel
theorem d_Exp_fold_5 : decode b_Exp_fold 5 = .ok (.if_icmp .eq 11, 3) := by decide +kernel
theorem d_Exp_fold_8 : decode b_Exp_fold 8 = .ok (.aload_n 2, 1) := by decide +kernel
theorem d_Exp_fold_9 : decode b_Exp_fold 9 = .ok (.getfield 113, 3) := by decide +kernel
theorem d_Exp_fold_12 : decode b_Exp_fold 12 = .ok (.iconst 3, 1) := by decide +kernel
theorem d_Exp_fold_13 : decode b_Exp_fold 13 = .ok (.if_icmp .ne 11, 3) := by decide +kernel
theorem d_Exp_fold_16 : decode b_Exp_fold 16 = .ok (.aload_n 0, 1) := by decide +kernel
theorem d_Exp_fold_17 : decode b_Exp_fold 17 = .ok (.iconst 3, 1) := by decide +kernel
theorem d_Exp_fold_18 : decode b_Exp_fold 18 = .ok (.putfield 113, 3) := by decide +kernel
theorem d_Exp_fold_21 : decode b_Exp_fold 21 = .ok (.goto 119, 3) := by decide +kernel
theorem d_Exp_fold_24 : decode b_Exp_fold 24 = .ok (.iload_n 1, 1) := by decide +kernel
theorem d_Exp_fold_25 : decode b_Exp_fold 25 = .ok (.sipush 136, 3) := by decide +kernel
theorem d_Exp_fold_28 : decode b_Exp_fold 28 = .ok (.if_icmp .eq 10, 3) := by decide +kernel
theorem d_Exp_fold_31 : decode b_Exp_fold 31 = .ok (.iload_n 1, 1) := by decide +kernel
theorem d_Exp_fold_32 : decode b_Exp_fold 32 = .ok (.sipush 137, 3) := by decide +kernel
theorem d_Exp_fold_35 : decode b_Exp_fold 35 = .ok (.if_icmp .ne 23, 3) := by decide +kernel
theorem d_Exp_fold_38 : decode b_Exp_fold 38 = .ok (.aload_n 0, 1) := by decide +kernel
theorem d_Exp_fold_39 : decode b_Exp_fold 39 = .ok (.iload_n 1, 1) := by decide +kernel
theorem d_Exp_fold_40 : decode b_Exp_fold 40 = .ok (.sipush 137, 3) := by decide +kernel
theorem d_Exp_fold_43 : decode b_Exp_fold 43 = .ok (.if_icmp .ne 7, 3) := by decide +kernel
theorem d_Exp_fold_46 : decode b_Exp_fold 46 = .ok (.iconst 1, 1) := by decide +kernel
theorem d_Exp_fold_47 : decode b_Exp_fold 47 = .ok (.goto 4, 3) := by decide +kernel
theorem d_Exp_fold_50 : decode b_Exp_fold 50 = .ok (.iconst 0, 1) := by decide +kernel
theorem d_Exp_fold_51 : decode b_Exp_fold 51 = .ok (.aload_n 2, 1) := by decide +kernel
theorem d_Exp_fold_52 : decode b_Exp_fold 52 = .ok (.invokestatic 119, 3) := by decide +kernel
theorem d_Exp_fold_55 : decode b_Exp_fold 55 = .ok (.goto 85, 3) := by decide +kernel
theorem d_Exp_fold_58 : decode b_Exp_fold 58 = .ok (.aload_n 0, 1) := by decide +kernel
theorem d_Exp_fold_59 : decode b_Exp_fold 59 = .ok (.getfield 113, 3) := by decide +kernel
theorem d_Exp_fold_62 : decode b_Exp_fold 62 = .ok (.iconst 2, 1) := by decide +kernel
theorem d_Exp_fold_63 : decode b_Exp_fold 63 = .ok (.if_icmp .eq 29, 3) := by decide +kernel
theorem d_Exp_fold_66 : decode b_Exp_fold 66 = .ok (.aload_n 2, 1) := by decide +kernel
theorem d_Exp_fold_67 : decode b_Exp_fold 67 = .ok (.getfield 113, 3) := by decide +kernel
theorem d_Exp_fold_70 : decode b_Exp_fold 70 = .ok (.iconst 2, 1) := by decide +kernel
theorem d_Exp_fold_71 : decode b_Exp_fold 71 = .ok (.if_icmp .eq 21, 3) := by decide +kernel
theorem d_Exp_fold_74 : decode b_Exp_fold 74 = .ok (.aload_n 2, 1) := by decide +kernel
theorem d_Exp_fold_75 : decode b_Exp_fold 75 = .ok (.getfield 113, 3) := by decide +kernel
theorem d_Exp_fold_78 : decode b_Exp_fold 78 = .ok (.ifCond .ne 22, 3) := by decide +kernel
theorem d_Exp_fold_81 : decode b_Exp_fold 81 = .ok (.iload_n 1, 1) := by decide +kernel
theorem d_Exp_fold_82 : decode b_Exp_fold 82 = .ok (.aload_n 2, 1) := by decide +kernel
theorem d_Exp_fold_83 : decode b_Exp_fold 83 = .ok (.getfield 123, 3) := by decide +kernel
theorem d_Exp_fold_86 : decode b_Exp_fold 86 = .ok (.invokestatic 125, 3) := by decide +kernel
theorem d_Exp_fold_89 : decode b_Exp_fold 89 = .ok (.ifCond .eq 11, 3) := by decide +kernel
theorem d_Exp_fold_92 : decode b_Exp_fold 92 = .ok (.aload_n 0, 1) := by decide +kernel
theorem d_Exp_fold_93 : decode b_Exp_fold 93 = .ok (.iconst 2, 1) := by decide +kernel
theorem d_Exp_fold_94 : decode b_Exp_fold 94 = .ok (.putfield 113, 3) := by decide +kernel
theorem d_Exp_fold_97 : decode b_Exp_fold 97 = .ok (.goto 43, 3) := by decide +kernel
theorem d_Exp_fold_100 : decode b_Exp_fold 100 = .ok (.aload_n 0, 1) := by decide +kernel
theorem d_Exp_fold_101 : decode b_Exp_fold 101 = .ok (.getfield 113, 3) := by decide +kernel
theorem d_Exp_fold_104 : decode b_Exp_fold 104 = .ok (.iconst 1, 1) := by decide +kernel
theorem d_Exp_fold_105 : decode b_Exp_fold 105 = .ok (.if_icmp .eq 11, 3) := by decide +kernel
theorem d_Exp_fold_108 : decode b_Exp_fold 108 = .ok (.aload_n 2, 1) := by decide +kernel
theorem d_Exp_fold_109 : decode b_Exp_fold 109 = .ok (.getfield 113, 3) := by decide +kernel
theorem d_Exp_fold_112 : decode b_Exp_fold 112 = .ok (.iconst 1, 1) := by decide +kernel
theorem d_Exp_fold_113 : decode b_Exp_fold 113 = .ok (.if_icmp .ne 11, 3) := by decide +kernel
theorem d_Exp_fold_116 : decode b_Exp_fold 116 = .ok (.aload_n 0, 1) := by decide +kernel
theorem d_Exp_fold_117 : decode b_Exp_fold 117 = .ok (.iconst 1, 1) := by decide +kernel
theorem d_Exp_fold_118 : decode b_Exp_fold 118 = .ok (.putfield 113, 3) := by decide +kernel
theorem d_Exp_fold_121 : decode b_Exp_fold 121 = .ok (.goto 19, 3) := by decide +kernel
theorem d_Exp_fold_124 : decode b_Exp_fold 124 = .ok (.aload_n 0, 1) := by decide +kernel
theorem d_Exp_fold_125 : decode b_Exp_fold 125 = .ok (.iload_n 1, 1) := by decide +kernel
theorem d_Exp_fold_126 : decode b_Exp_fold 126 = .ok (.aload_n 0, 1) := by decide +kernel
theorem d_Exp_fold_127 : decode b_Exp_fold 127 = .ok (.getfield 123, 3) := by decide +kernel
theorem d_Exp_fold_130 : decode b_Exp_fold 130 = .ok (.aload_n 2, 1) := by decide +kernel
theorem d_Exp_fold_131 : decode b_Exp_fold 131 = .ok (.getfield 123, 3) := by decide +kernel
theorem d_Exp_fold_134 : decode b_Exp_fold 134 = .ok (.invokestatic 129, 3) := by decide +kernel
theorem d_Exp_fold_137 : decode b_Exp_fold 137 = .ok (.putfield 123, 3) := by decide +kernel
theorem d_Exp_fold_140 : decode b_Exp_fold 140 = .ok (.return_, 1) := by decide +kernel
theorem q_Exp_fold : px_y y_Exp_fold 3 := by unfold px_y; decide +kernel
set_option maxHeartbeats 4000000 in
set_option maxRecDepth 100000 in
theorem c_ex_fold (l : Launch) (D : va_G) (cs : Nat → ClassId) (hx : Nat) (ox : Option Nat) (fx : Nat → Int32) (hy : Nat) (oy : Option Nat) (fy : Nat → Int32) (p0 : Int32)   : MetV l y_Exp_fold b_Exp_fold 3 D cs 1 40 (0) (0) [.ref hx, .int p0, .ref hy] [wd_Opd cs hx (fun _ => 0) (fun k => if k = 4 then ox else none) fx (fun _ _ => 0) (fun _ _ => none), wd_Opd cs hy (fun _ => 0) (fun k => if k = 4 then oy else none) fy (fun _ _ => 0) (fun _ _ => none)] (fun _ => True) (fun ps => ∃ (fx' : Nat → Int32), (ps = [wd_Opd cs hx (fun _ => 0) (fun k => if k = 4 then ox else none) fx' (fun _ _ => 0) (fun _ _ => none), wd_Opd cs hy (fun _ => 0) (fun k => if k = 4 then oy else none) fy (fun _ _ => 0) (fun _ _ => none)]) ∧ ((fx' 0).toInt = (fx 0).toInt) ∧ ((fx' 3).toInt = (fx 3).toInt) ∧ ((fx' 5).toInt = (fx 5).toInt) ∧ (R_ex_fold fy p0 fx fx')) := by
  refine px_enter (by decide) (Nat.le_of_ble_eq_true rfl) ?_
  intro p e s m below meth c A ls hAe S hr hlk hnm hA hT hX hw hl
  have hl : lv_has ls 3 [(0, .ref hx), (1, .int p0), (2, .ref hy)] := hl
  have lp0 := Int32.le_toInt p0
  have up0 := Int32.toInt_lt p0
  have cst0 : (0 : Int32).toInt = 0 := rfl
  have cst1 : (1 : Int32).toInt = 1 := rfl
  have cst2 : (2 : Int32).toInt = 2 := rfl
  have cst3 : (3 : Int32).toInt = 3 := rfl
  have cst136 : (136 : Int32).toInt = 136 := rfl
  have cst137 : (137 : Int32).toInt = 137 := rfl
  have J140 : ∀ (fx_140 : Nat → Int32) (H : Heap) (locs : List Loc) (ls : Array Slot), ((fx_140 0).toInt = (fx 0).toInt) → ((fx_140 3).toInt = (fx 3).toInt) → ((fx_140 5).toInt = (fx 5).toInt) → (K_ex_fold_140 fy p0 fx fx_140) → pw D A s.heap H locs [wd_Opd cs hx (fun _ => 0) (fun k => if k = 4 then ox else none) fx_140 (fun _ _ => 0) (fun _ _ => none), wd_Opd cs hy (fun _ => 0) (fun k => if k = 4 then oy else none) fy (fun _ _ => 0) (fun _ _ => none)] → lv_has ls 3 [(0, .ref hx), (1, .int p0), (2, .ref hy)] → W p l e { frames := 1, cells := 0, slots := 0, locals := 40 } s m [.ref hx, .int p0, .ref hy].toArray below meth c H locs 0 0 (MQ below (va_Qv (fun ps => ∃ (fx' : Nat → Int32), (ps = [wd_Opd cs hx (fun _ => 0) (fun k => if k = 4 then ox else none) fx' (fun _ _ => 0) (fun _ _ => none), wd_Opd cs hy (fun _ => 0) (fun k => if k = 4 then oy else none) fy (fun _ _ => 0) (fun _ _ => none)]) ∧ ((fx' 0).toInt = (fx 0).toInt) ∧ ((fx' 3).toInt = (fx 3).toInt) ∧ ((fx' 5).toInt = (fx 5).toInt) ∧ (R_ex_fold fy p0 fx fx')) (pc_B D (va_A ([wd_Opd cs hx (fun _ => 0) (fun k => if k = 4 then ox else none) fx (fun _ _ => 0) (fun _ _ => none), wd_Opd cs hy (fun _ => 0) (fun k => if k = 4 then oy else none) fy (fun _ _ => 0) (fun _ _ => none)] : List va_W).flatten s.heap.size)) (va_A ([wd_Opd cs hx (fun _ => 0) (fun k => if k = 4 then ox else none) fx (fun _ _ => 0) (fun _ _ => none), wd_Opd cs hy (fun _ => 0) (fun k => if k = 4 then oy else none) fy (fun _ _ => 0) (fun _ _ => none)] : List va_W).flatten s.heap.size)) [.ref hx, .int p0, .ref hy].toArray s 0 0 A) (F0 m 140 ls []) := by
    intro fx_140 H locs ls k140_0 k140_1 k140_2 k140_3 hw hl
    exact px_vret S hr hlk hAe hw (Nat.le_of_ble_eq_true rfl) (Nat.le_of_ble_eq_true rfl) (⟨fx_140, rfl, (show (fx_140 0).toInt = (fx 0).toInt from by first | exact k140_0 | omega), (show (fx_140 3).toInt = (fx 3).toInt from by first | exact k140_1 | omega), (show (fx_140 5).toInt = (fx 5).toInt from by first | exact k140_2 | omega), (show R_ex_fold fy p0 fx fx_140 from (k140_3 _ 1 (Or.inr (Or.inl ⟨rfl, rfl, rfl, rfl, rfl, rfl, rfl⟩))))⟩) d_Exp_fold_140
  refine lv_aload_n S.x S.b d_Exp_fold_0 rfl (lv_at hl 0 rfl) ?_
  refine px_get S k_Opd hT hw 0 0 2 (v := .int (fx 2)) rfl rfl rfl (by decide) m4_223 d_Exp_fold_1 ?_
  refine lv_iconst (v := 3) S.x S.b d_Exp_fold_4 (by decide) ?_
  refine lv_icmp_eq (tgt := 16) S.x S.b d_Exp_fold_5 (by decide) (fun c1 => ?_) (fun c1 => ?_)
  · have nc1 : (fx 2).toInt = (3 : Int) := (i_eq (x := (fx 2)) (y := 3)).mp c1
    refine lv_aload_n S.x S.b d_Exp_fold_16 rfl (lv_at hl 0 rfl) ?_
    refine lv_iconst (v := 3) S.x S.b d_Exp_fold_17 (by decide) ?_
    refine px_put S k_Opd hT hw 0 0 2 rfl rfl (by decide) m4_223 rfl rfl rfl (Nat.le_of_ble_eq_true rfl) d_Exp_fold_18 (w' := wd_Opd cs hx (fun _ => 0) (fun k => if k = 4 then ox else none) (upd fx 2 3) (fun _ _ => 0) (fun _ _ => none)) (ps' := [wd_Opd cs hx (fun _ => 0) (fun k => if k = 4 then ox else none) (upd fx 2 3) (fun _ _ => 0) (fun _ _ => none), wd_Opd cs hy (fun _ => 0) (fun k => if k = 4 then oy else none) fy (fun _ _ => 0) (fun _ _ => none)]) rfl rfl (fun H locs hw => ?_)
    refine lv_goto (tgt := 140) S.x S.b d_Exp_fold_21 (by decide) ?_
    exact J140 (upd fx 2 3) _ _ ls (show (fx 0).toInt = (fx 0).toInt from rfl) (show (fx 3).toInt = (fx 3).toInt from rfl) (show (fx 5).toInt = (fx 5).toInt from rfl) (show K_ex_fold_140 fy p0 fx (upd fx 2 3) from (fun y_f0 k hE => Exists.intro (k + 1) (Or.inl ⟨rfl, Or.inl ⟨nc1, hE⟩⟩))) hw (lv_sub hl [0, 1, 2] rfl)
  · have nc1 : ¬ (fx 2).toInt = (3 : Int) := mt (i_eq (x := (fx 2)) (y := 3)).mpr c1
    refine lv_aload_n S.x S.b d_Exp_fold_8 rfl (lv_at hl 2 rfl) ?_
    refine px_get S k_Opd hT hw 1 0 2 (v := .int (fy 2)) rfl rfl rfl (by decide) m4_223 d_Exp_fold_9 ?_
    refine lv_iconst (v := 3) S.x S.b d_Exp_fold_12 (by decide) ?_
    refine lv_icmp_ne (tgt := 24) S.x S.b d_Exp_fold_13 (by decide) (fun c3 => ?_) (fun c3 => ?_)
    · have nc3 : ¬ (fy 2).toInt = (3 : Int) := mt (i_eq (x := (fy 2)) (y := 3)).mpr c3
      refine lv_iload_n S.x S.b d_Exp_fold_24 rfl (lv_at hl 1 rfl) ?_
      refine lv_sipush (v := 136) S.x S.b d_Exp_fold_25 (by decide) ?_
      refine lv_icmp_eq (tgt := 38) S.x S.b d_Exp_fold_28 (by decide) (fun c5 => ?_) (fun c5 => ?_)
      · have nc5 : p0.toInt = (136 : Int) := (i_eq (x := p0) (y := 136)).mp c5
        refine lv_aload_n S.x S.b d_Exp_fold_38 rfl (lv_at hl 0 rfl) ?_
        refine lv_iload_n S.x S.b d_Exp_fold_39 rfl (lv_at hl 1 rfl) ?_
        refine lv_sipush (v := 137) S.x S.b d_Exp_fold_40 (by decide) ?_
        refine lv_icmp_ne (tgt := 50) S.x S.b d_Exp_fold_43 (by decide) (fun c7 => ?_) (fun c7 => ?_)
        · have nc7 : ¬ p0.toInt = (137 : Int) := mt (i_eq (x := p0) (y := 137)).mpr c7
          refine lv_iconst (v := 0) S.x S.b d_Exp_fold_50 (by decide) ?_
          refine lv_aload_n S.x S.b d_Exp_fold_51 rfl (lv_at hl 2 rfl) ?_
          refine px_callv (pr := []) (px_runS (As := [.ref hx, .int 0, .ref hy]) (rest := []) S (c_ex_foldLogic l D cs hx ox fx hy oy fy 0   _) hT (pr := []) (pcs := [wd_Opd cs hx (fun _ => 0) (fun k => if k = 4 then ox else none) fx (fun _ _ => 0) (fun _ _ => none), wd_Opd cs hy (fun _ => 0) (fun k => if k = 4 then oy else none) fy (fun _ _ => 0) (fun _ _ => none)]) hw px_X.tt m5_94 m5_92 m5_93 m1_17 q_Exp_foldLogic ⟨Nat.le_of_ble_eq_true rfl, Nat.le_of_ble_eq_true rfl⟩ hl.1 rfl (Nat.le_of_ble_eq_true rfl) d_Exp_fold_52 ⟨Nat.le_of_ble_eq_true rfl, Nat.le_of_ble_eq_true rfl⟩) hw hA (fun p11 H locs hp11 hw => ?_)
          obtain ⟨fx10, rfl, e13, e14, e15, e16⟩ := hp11
          have e13 : (fx10 0).toInt = (fx 0).toInt := e13
          have e14 : (fx10 3).toInt = (fx 3).toInt := e14
          have e15 : (fx10 5).toInt = (fx 5).toInt := e15
          have e16 : R_ex_foldLogic fy (0 : Int32) fx fx10 := e16
          have hw : pw D A s.heap H locs [wd_Opd cs hx (fun _ => 0) (fun k => if k = 4 then ox else none) fx10 (fun _ _ => 0) (fun _ _ => none), wd_Opd cs hy (fun _ => 0) (fun k => if k = 4 then oy else none) fy (fun _ _ => 0) (fun _ _ => none)] := hw
          refine lv_goto (tgt := 140) S.x S.b d_Exp_fold_55 (by decide) ?_
          exact J140 fx10 _ _ ls (show (fx10 0).toInt = (fx 0).toInt from by first | exact e13 | omega) (show (fx10 3).toInt = (fx 3).toInt from by first | exact e14 | omega) (show (fx10 5).toInt = (fx 5).toInt from by first | exact e15 | omega) (show K_ex_fold_140 fy p0 fx fx10 from (fun y_f0 k hE => Exists.intro (k + 1) (Or.inl ⟨rfl, Or.inr ⟨nc1, Or.inl ⟨nc3, Or.inl ⟨nc5, Or.inl ⟨nc7, fx10, e16, hE⟩⟩⟩⟩⟩))) hw (lv_sub hl [0, 1, 2] rfl)
        · have nc7 : p0.toInt = (137 : Int) := (i_eq (x := p0) (y := 137)).mp c7
          refine lv_iconst (v := 1) S.x S.b d_Exp_fold_46 (by decide) ?_
          refine lv_goto (tgt := 51) S.x S.b d_Exp_fold_47 (by decide) ?_
          refine lv_aload_n S.x S.b d_Exp_fold_51 rfl (lv_at hl 2 rfl) ?_
          refine px_callv (pr := []) (px_runS (As := [.ref hx, .int 1, .ref hy]) (rest := []) S (c_ex_foldLogic l D cs hx ox fx hy oy fy 1   _) hT (pr := []) (pcs := [wd_Opd cs hx (fun _ => 0) (fun k => if k = 4 then ox else none) fx (fun _ _ => 0) (fun _ _ => none), wd_Opd cs hy (fun _ => 0) (fun k => if k = 4 then oy else none) fy (fun _ _ => 0) (fun _ _ => none)]) hw px_X.tt m5_94 m5_92 m5_93 m1_17 q_Exp_foldLogic ⟨Nat.le_of_ble_eq_true rfl, Nat.le_of_ble_eq_true rfl⟩ hl.1 rfl (Nat.le_of_ble_eq_true rfl) d_Exp_fold_52 ⟨Nat.le_of_ble_eq_true rfl, Nat.le_of_ble_eq_true rfl⟩) hw hA (fun p19 H locs hp19 hw => ?_)
          obtain ⟨fx18, rfl, e21, e22, e23, e24⟩ := hp19
          have e21 : (fx18 0).toInt = (fx 0).toInt := e21
          have e22 : (fx18 3).toInt = (fx 3).toInt := e22
          have e23 : (fx18 5).toInt = (fx 5).toInt := e23
          have e24 : R_ex_foldLogic fy (1 : Int32) fx fx18 := e24
          have hw : pw D A s.heap H locs [wd_Opd cs hx (fun _ => 0) (fun k => if k = 4 then ox else none) fx18 (fun _ _ => 0) (fun _ _ => none), wd_Opd cs hy (fun _ => 0) (fun k => if k = 4 then oy else none) fy (fun _ _ => 0) (fun _ _ => none)] := hw
          refine lv_goto (tgt := 140) S.x S.b d_Exp_fold_55 (by decide) ?_
          exact J140 fx18 _ _ ls (show (fx18 0).toInt = (fx 0).toInt from by first | exact e21 | omega) (show (fx18 3).toInt = (fx 3).toInt from by first | exact e22 | omega) (show (fx18 5).toInt = (fx 5).toInt from by first | exact e23 | omega) (show K_ex_fold_140 fy p0 fx fx18 from (fun y_f0 k hE => Exists.intro (k + 1) (Or.inl ⟨rfl, Or.inr ⟨nc1, Or.inl ⟨nc3, Or.inl ⟨nc5, Or.inr ⟨nc7, fx18, e24, hE⟩⟩⟩⟩⟩))) hw (lv_sub hl [0, 1, 2] rfl)
      · have nc5 : ¬ p0.toInt = (136 : Int) := mt (i_eq (x := p0) (y := 136)).mpr c5
        refine lv_iload_n S.x S.b d_Exp_fold_31 rfl (lv_at hl 1 rfl) ?_
        refine lv_sipush (v := 137) S.x S.b d_Exp_fold_32 (by decide) ?_
        refine lv_icmp_ne (tgt := 58) S.x S.b d_Exp_fold_35 (by decide) (fun c25 => ?_) (fun c25 => ?_)
        · have nc25 : ¬ p0.toInt = (137 : Int) := mt (i_eq (x := p0) (y := 137)).mpr c25
          refine lv_aload_n S.x S.b d_Exp_fold_58 rfl (lv_at hl 0 rfl) ?_
          refine px_get S k_Opd hT hw 0 0 2 (v := .int (fx 2)) rfl rfl rfl (by decide) m4_223 d_Exp_fold_59 ?_
          refine lv_iconst (v := 2) S.x S.b d_Exp_fold_62 (by decide) ?_
          refine lv_icmp_eq (tgt := 92) S.x S.b d_Exp_fold_63 (by decide) (fun c27 => ?_) (fun c27 => ?_)
          · have nc27 : (fx 2).toInt = (2 : Int) := (i_eq (x := (fx 2)) (y := 2)).mp c27
            refine lv_aload_n S.x S.b d_Exp_fold_92 rfl (lv_at hl 0 rfl) ?_
            refine lv_iconst (v := 2) S.x S.b d_Exp_fold_93 (by decide) ?_
            refine px_put S k_Opd hT hw 0 0 2 rfl rfl (by decide) m4_223 rfl rfl rfl (Nat.le_of_ble_eq_true rfl) d_Exp_fold_94 (w' := wd_Opd cs hx (fun _ => 0) (fun k => if k = 4 then ox else none) (upd fx 2 2) (fun _ _ => 0) (fun _ _ => none)) (ps' := [wd_Opd cs hx (fun _ => 0) (fun k => if k = 4 then ox else none) (upd fx 2 2) (fun _ _ => 0) (fun _ _ => none), wd_Opd cs hy (fun _ => 0) (fun k => if k = 4 then oy else none) fy (fun _ _ => 0) (fun _ _ => none)]) rfl rfl (fun H locs hw => ?_)
            refine lv_goto (tgt := 140) S.x S.b d_Exp_fold_97 (by decide) ?_
            exact J140 (upd fx 2 2) _ _ ls (show (fx 0).toInt = (fx 0).toInt from rfl) (show (fx 3).toInt = (fx 3).toInt from rfl) (show (fx 5).toInt = (fx 5).toInt from rfl) (show K_ex_fold_140 fy p0 fx (upd fx 2 2) from (fun y_f0 k hE => Exists.intro (k + 1) (Or.inl ⟨rfl, Or.inr ⟨nc1, Or.inl ⟨nc3, Or.inr ⟨nc5, Or.inl ⟨nc25, Or.inl ⟨nc27, hE⟩⟩⟩⟩⟩⟩))) hw (lv_sub hl [0, 1, 2] rfl)
          · have nc27 : ¬ (fx 2).toInt = (2 : Int) := mt (i_eq (x := (fx 2)) (y := 2)).mpr c27
            refine lv_aload_n S.x S.b d_Exp_fold_66 rfl (lv_at hl 2 rfl) ?_
            refine px_get S k_Opd hT hw 1 0 2 (v := .int (fy 2)) rfl rfl rfl (by decide) m4_223 d_Exp_fold_67 ?_
            refine lv_iconst (v := 2) S.x S.b d_Exp_fold_70 (by decide) ?_
            refine lv_icmp_eq (tgt := 92) S.x S.b d_Exp_fold_71 (by decide) (fun c29 => ?_) (fun c29 => ?_)
            · have nc29 : (fy 2).toInt = (2 : Int) := (i_eq (x := (fy 2)) (y := 2)).mp c29
              refine lv_aload_n S.x S.b d_Exp_fold_92 rfl (lv_at hl 0 rfl) ?_
              refine lv_iconst (v := 2) S.x S.b d_Exp_fold_93 (by decide) ?_
              refine px_put S k_Opd hT hw 0 0 2 rfl rfl (by decide) m4_223 rfl rfl rfl (Nat.le_of_ble_eq_true rfl) d_Exp_fold_94 (w' := wd_Opd cs hx (fun _ => 0) (fun k => if k = 4 then ox else none) (upd fx 2 2) (fun _ _ => 0) (fun _ _ => none)) (ps' := [wd_Opd cs hx (fun _ => 0) (fun k => if k = 4 then ox else none) (upd fx 2 2) (fun _ _ => 0) (fun _ _ => none), wd_Opd cs hy (fun _ => 0) (fun k => if k = 4 then oy else none) fy (fun _ _ => 0) (fun _ _ => none)]) rfl rfl (fun H locs hw => ?_)
              refine lv_goto (tgt := 140) S.x S.b d_Exp_fold_97 (by decide) ?_
              exact J140 (upd fx 2 2) _ _ ls (show (fx 0).toInt = (fx 0).toInt from rfl) (show (fx 3).toInt = (fx 3).toInt from rfl) (show (fx 5).toInt = (fx 5).toInt from rfl) (show K_ex_fold_140 fy p0 fx (upd fx 2 2) from (fun y_f0 k hE => Exists.intro (k + 1) (Or.inl ⟨rfl, Or.inr ⟨nc1, Or.inl ⟨nc3, Or.inr ⟨nc5, Or.inl ⟨nc25, Or.inr ⟨nc27, Or.inl ⟨nc29, hE⟩⟩⟩⟩⟩⟩⟩))) hw (lv_sub hl [0, 1, 2] rfl)
            · have nc29 : ¬ (fy 2).toInt = (2 : Int) := mt (i_eq (x := (fy 2)) (y := 2)).mpr c29
              refine lv_aload_n S.x S.b d_Exp_fold_74 rfl (lv_at hl 2 rfl) ?_
              refine px_get S k_Opd hT hw 1 0 2 (v := .int (fy 2)) rfl rfl rfl (by decide) m4_223 d_Exp_fold_75 ?_
              refine lv_if_ne (tgt := 100) S.x S.b d_Exp_fold_78 (by decide) (fun c31 => ?_) (fun c31 => ?_)
              · have nc31 : ¬ (fy 2).toInt = (0 : Int) := mt (i_eq (x := (fy 2)) (y := 0)).mpr c31
                refine lv_aload_n S.x S.b d_Exp_fold_100 rfl (lv_at hl 0 rfl) ?_
                refine px_get S k_Opd hT hw 0 0 2 (v := .int (fx 2)) rfl rfl rfl (by decide) m4_223 d_Exp_fold_101 ?_
                refine lv_iconst (v := 1) S.x S.b d_Exp_fold_104 (by decide) ?_
                refine lv_icmp_eq (tgt := 116) S.x S.b d_Exp_fold_105 (by decide) (fun c33 => ?_) (fun c33 => ?_)
                · have nc33 : (fx 2).toInt = (1 : Int) := (i_eq (x := (fx 2)) (y := 1)).mp c33
                  refine lv_aload_n S.x S.b d_Exp_fold_116 rfl (lv_at hl 0 rfl) ?_
                  refine lv_iconst (v := 1) S.x S.b d_Exp_fold_117 (by decide) ?_
                  refine px_put S k_Opd hT hw 0 0 2 rfl rfl (by decide) m4_223 rfl rfl rfl (Nat.le_of_ble_eq_true rfl) d_Exp_fold_118 (w' := wd_Opd cs hx (fun _ => 0) (fun k => if k = 4 then ox else none) (upd fx 2 1) (fun _ _ => 0) (fun _ _ => none)) (ps' := [wd_Opd cs hx (fun _ => 0) (fun k => if k = 4 then ox else none) (upd fx 2 1) (fun _ _ => 0) (fun _ _ => none), wd_Opd cs hy (fun _ => 0) (fun k => if k = 4 then oy else none) fy (fun _ _ => 0) (fun _ _ => none)]) rfl rfl (fun H locs hw => ?_)
                  refine lv_goto (tgt := 140) S.x S.b d_Exp_fold_121 (by decide) ?_
                  exact J140 (upd fx 2 1) _ _ ls (show (fx 0).toInt = (fx 0).toInt from rfl) (show (fx 3).toInt = (fx 3).toInt from rfl) (show (fx 5).toInt = (fx 5).toInt from rfl) (show K_ex_fold_140 fy p0 fx (upd fx 2 1) from (fun y_f0 k hE => Exists.intro (k + 1) (Or.inl ⟨rfl, Or.inr ⟨nc1, Or.inl ⟨nc3, Or.inr ⟨nc5, Or.inl ⟨nc25, Or.inr ⟨nc27, Or.inr ⟨nc29, Or.inl ⟨nc31, Or.inl ⟨nc33, hE⟩⟩⟩⟩⟩⟩⟩⟩⟩))) hw (lv_sub hl [0, 1, 2] rfl)
                · have nc33 : ¬ (fx 2).toInt = (1 : Int) := mt (i_eq (x := (fx 2)) (y := 1)).mpr c33
                  refine lv_aload_n S.x S.b d_Exp_fold_108 rfl (lv_at hl 2 rfl) ?_
                  refine px_get S k_Opd hT hw 1 0 2 (v := .int (fy 2)) rfl rfl rfl (by decide) m4_223 d_Exp_fold_109 ?_
                  refine lv_iconst (v := 1) S.x S.b d_Exp_fold_112 (by decide) ?_
                  refine lv_icmp_ne (tgt := 124) S.x S.b d_Exp_fold_113 (by decide) (fun c35 => ?_) (fun c35 => ?_)
                  · have nc35 : ¬ (fy 2).toInt = (1 : Int) := mt (i_eq (x := (fy 2)) (y := 1)).mpr c35
                    refine lv_aload_n S.x S.b d_Exp_fold_124 rfl (lv_at hl 0 rfl) ?_
                    refine lv_iload_n S.x S.b d_Exp_fold_125 rfl (lv_at hl 1 rfl) ?_
                    refine lv_aload_n S.x S.b d_Exp_fold_126 rfl (lv_at hl 0 rfl) ?_
                    refine px_get S k_Opd hT hw 0 0 8 (v := .int (fx 8)) rfl rfl rfl (by decide) m4_235 d_Exp_fold_127 ?_
                    refine lv_aload_n S.x S.b d_Exp_fold_130 rfl (lv_at hl 2 rfl) ?_
                    refine px_get S k_Opd hT hw 1 0 8 (v := .int (fy 8)) rfl rfl rfl (by decide) m4_235 d_Exp_fold_131 ?_
                    refine px_calli (pr := [wd_Opd cs hx (fun _ => 0) (fun k => if k = 4 then ox else none) fx (fun _ _ => 0) (fun _ _ => none), wd_Opd cs hy (fun _ => 0) (fun k => if k = 4 then oy else none) fy (fun _ _ => 0) (fun _ _ => none)]) (px_runSN (As := [.int p0, .int (fx 8), .int (fy 8)]) (rest := [.ref hx]) S (c_Hs_reckon l D cs  p0 (fx 8) (fy 8)   _) hT (pr := [wd_Opd cs hx (fun _ => 0) (fun k => if k = 4 then ox else none) fx (fun _ _ => 0) (fun _ _ => none), wd_Opd cs hy (fun _ => 0) (fun k => if k = 4 then oy else none) fy (fun _ _ => 0) (fun _ _ => none)]) (pcs := []) hw px_X.tt m5_100 m5_98n m5_99 m1_1 q_Hs_reckon ⟨Nat.le_of_ble_eq_true rfl, Nat.le_of_ble_eq_true rfl⟩ hl.1 rfl (Nat.le_of_ble_eq_true rfl) d_Exp_fold_134 ⟨Nat.le_of_ble_eq_true rfl, Nat.le_of_ble_eq_true rfl⟩) hw hA (fun v38 p37 H locs hp37 hw => ?_)
                    obtain ⟨rfl, e39⟩ := hp37
                    have e39 : R_Hs_reckon p0 (fx 8) (fy 8) v38 := e39
                    have hw : pw D A s.heap H locs [wd_Opd cs hx (fun _ => 0) (fun k => if k = 4 then ox else none) fx (fun _ _ => 0) (fun _ _ => none), wd_Opd cs hy (fun _ => 0) (fun k => if k = 4 then oy else none) fy (fun _ _ => 0) (fun _ _ => none)] := hw
                    have lv38 := Int32.le_toInt v38
                    have uv38 := Int32.toInt_lt v38
                    refine px_put S k_Opd hT hw 0 0 8 rfl rfl (by decide) m4_235 rfl rfl rfl (Nat.le_of_ble_eq_true rfl) d_Exp_fold_137 (w' := wd_Opd cs hx (fun _ => 0) (fun k => if k = 4 then ox else none) (upd fx 8 v38) (fun _ _ => 0) (fun _ _ => none)) (ps' := [wd_Opd cs hx (fun _ => 0) (fun k => if k = 4 then ox else none) (upd fx 8 v38) (fun _ _ => 0) (fun _ _ => none), wd_Opd cs hy (fun _ => 0) (fun k => if k = 4 then oy else none) fy (fun _ _ => 0) (fun _ _ => none)]) rfl rfl (fun H locs hw => ?_)
                    exact J140 (upd fx 8 v38) _ _ ls (show (fx 0).toInt = (fx 0).toInt from rfl) (show (fx 3).toInt = (fx 3).toInt from rfl) (show (fx 5).toInt = (fx 5).toInt from rfl) (show K_ex_fold_140 fy p0 fx (upd fx 8 v38) from (fun y_f0 k hE => Exists.intro (k + 1) (Or.inl ⟨rfl, Or.inr ⟨nc1, Or.inl ⟨nc3, Or.inr ⟨nc5, Or.inl ⟨nc25, Or.inr ⟨nc27, Or.inr ⟨nc29, Or.inl ⟨nc31, Or.inr ⟨nc33, Or.inl ⟨nc35, v38, e39, hE⟩⟩⟩⟩⟩⟩⟩⟩⟩⟩))) hw (lv_sub hl [0, 1, 2] rfl)
                  · have nc35 : (fy 2).toInt = (1 : Int) := (i_eq (x := (fy 2)) (y := 1)).mp c35
                    refine lv_aload_n S.x S.b d_Exp_fold_116 rfl (lv_at hl 0 rfl) ?_
                    refine lv_iconst (v := 1) S.x S.b d_Exp_fold_117 (by decide) ?_
                    refine px_put S k_Opd hT hw 0 0 2 rfl rfl (by decide) m4_223 rfl rfl rfl (Nat.le_of_ble_eq_true rfl) d_Exp_fold_118 (w' := wd_Opd cs hx (fun _ => 0) (fun k => if k = 4 then ox else none) (upd fx 2 1) (fun _ _ => 0) (fun _ _ => none)) (ps' := [wd_Opd cs hx (fun _ => 0) (fun k => if k = 4 then ox else none) (upd fx 2 1) (fun _ _ => 0) (fun _ _ => none), wd_Opd cs hy (fun _ => 0) (fun k => if k = 4 then oy else none) fy (fun _ _ => 0) (fun _ _ => none)]) rfl rfl (fun H locs hw => ?_)
                    refine lv_goto (tgt := 140) S.x S.b d_Exp_fold_121 (by decide) ?_
                    exact J140 (upd fx 2 1) _ _ ls (show (fx 0).toInt = (fx 0).toInt from rfl) (show (fx 3).toInt = (fx 3).toInt from rfl) (show (fx 5).toInt = (fx 5).toInt from rfl) (show K_ex_fold_140 fy p0 fx (upd fx 2 1) from (fun y_f0 k hE => Exists.intro (k + 1) (Or.inl ⟨rfl, Or.inr ⟨nc1, Or.inl ⟨nc3, Or.inr ⟨nc5, Or.inl ⟨nc25, Or.inr ⟨nc27, Or.inr ⟨nc29, Or.inl ⟨nc31, Or.inr ⟨nc33, Or.inr ⟨nc35, hE⟩⟩⟩⟩⟩⟩⟩⟩⟩⟩))) hw (lv_sub hl [0, 1, 2] rfl)
              · have nc31 : (fy 2).toInt = (0 : Int) := (i_eq (x := (fy 2)) (y := 0)).mp c31
                refine lv_iload_n S.x S.b d_Exp_fold_81 rfl (lv_at hl 1 rfl) ?_
                refine lv_aload_n S.x S.b d_Exp_fold_82 rfl (lv_at hl 2 rfl) ?_
                refine px_get S k_Opd hT hw 1 0 8 (v := .int (fy 8)) rfl rfl rfl (by decide) m4_235 d_Exp_fold_83 ?_
                refine px_calli (pr := [wd_Opd cs hx (fun _ => 0) (fun k => if k = 4 then ox else none) fx (fun _ _ => 0) (fun _ _ => none), wd_Opd cs hy (fun _ => 0) (fun k => if k = 4 then oy else none) fy (fun _ _ => 0) (fun _ _ => none)]) (px_runSN (As := [.int p0, .int (fy 8)]) (rest := []) S (c_Hs_byZero l D cs  p0 (fy 8)   _) hT (pr := [wd_Opd cs hx (fun _ => 0) (fun k => if k = 4 then ox else none) fx (fun _ _ => 0) (fun _ _ => none), wd_Opd cs hy (fun _ => 0) (fun k => if k = 4 then oy else none) fy (fun _ _ => 0) (fun _ _ => none)]) (pcs := []) hw px_X.tt m5_97 m5_95n m5_96 m1_1 q_Hs_byZero ⟨Nat.le_of_ble_eq_true rfl, Nat.le_of_ble_eq_true rfl⟩ hl.1 rfl (Nat.le_of_ble_eq_true rfl) d_Exp_fold_86 ⟨Nat.le_of_ble_eq_true rfl, Nat.le_of_ble_eq_true rfl⟩) hw hA (fun v41 p40 H locs hp40 hw => ?_)
                obtain ⟨rfl, e42, e43⟩ := hp40
                have e42 := z_rng e42
                have e43 : R_Hs_byZero p0 (fy 8) v41 := e43
                have hw : pw D A s.heap H locs [wd_Opd cs hx (fun _ => 0) (fun k => if k = 4 then ox else none) fx (fun _ _ => 0) (fun _ _ => none), wd_Opd cs hy (fun _ => 0) (fun k => if k = 4 then oy else none) fy (fun _ _ => 0) (fun _ _ => none)] := hw
                have lv41 := Int32.le_toInt v41
                have uv41 := Int32.toInt_lt v41
                refine lv_if_eq (tgt := 100) S.x S.b d_Exp_fold_89 (by decide) (fun c44 => ?_) (fun c44 => ?_)
                · have nc44 : v41.toInt = (0 : Int) := (i_eq (x := v41) (y := 0)).mp c44
                  refine lv_aload_n S.x S.b d_Exp_fold_100 rfl (lv_at hl 0 rfl) ?_
                  refine px_get S k_Opd hT hw 0 0 2 (v := .int (fx 2)) rfl rfl rfl (by decide) m4_223 d_Exp_fold_101 ?_
                  refine lv_iconst (v := 1) S.x S.b d_Exp_fold_104 (by decide) ?_
                  refine lv_icmp_eq (tgt := 116) S.x S.b d_Exp_fold_105 (by decide) (fun c46 => ?_) (fun c46 => ?_)
                  · have nc46 : (fx 2).toInt = (1 : Int) := (i_eq (x := (fx 2)) (y := 1)).mp c46
                    refine lv_aload_n S.x S.b d_Exp_fold_116 rfl (lv_at hl 0 rfl) ?_
                    refine lv_iconst (v := 1) S.x S.b d_Exp_fold_117 (by decide) ?_
                    refine px_put S k_Opd hT hw 0 0 2 rfl rfl (by decide) m4_223 rfl rfl rfl (Nat.le_of_ble_eq_true rfl) d_Exp_fold_118 (w' := wd_Opd cs hx (fun _ => 0) (fun k => if k = 4 then ox else none) (upd fx 2 1) (fun _ _ => 0) (fun _ _ => none)) (ps' := [wd_Opd cs hx (fun _ => 0) (fun k => if k = 4 then ox else none) (upd fx 2 1) (fun _ _ => 0) (fun _ _ => none), wd_Opd cs hy (fun _ => 0) (fun k => if k = 4 then oy else none) fy (fun _ _ => 0) (fun _ _ => none)]) rfl rfl (fun H locs hw => ?_)
                    refine lv_goto (tgt := 140) S.x S.b d_Exp_fold_121 (by decide) ?_
                    exact J140 (upd fx 2 1) _ _ ls (show (fx 0).toInt = (fx 0).toInt from rfl) (show (fx 3).toInt = (fx 3).toInt from rfl) (show (fx 5).toInt = (fx 5).toInt from rfl) (show K_ex_fold_140 fy p0 fx (upd fx 2 1) from (fun y_f0 k hE => Exists.intro (k + 1) (Or.inl ⟨rfl, Or.inr ⟨nc1, Or.inl ⟨nc3, Or.inr ⟨nc5, Or.inl ⟨nc25, Or.inr ⟨nc27, Or.inr ⟨nc29, Or.inr ⟨nc31, v41, e43, Or.inl ⟨nc44, Or.inl ⟨nc46, hE⟩⟩⟩⟩⟩⟩⟩⟩⟩⟩))) hw (lv_sub hl [0, 1, 2] rfl)
                  · have nc46 : ¬ (fx 2).toInt = (1 : Int) := mt (i_eq (x := (fx 2)) (y := 1)).mpr c46
                    refine lv_aload_n S.x S.b d_Exp_fold_108 rfl (lv_at hl 2 rfl) ?_
                    refine px_get S k_Opd hT hw 1 0 2 (v := .int (fy 2)) rfl rfl rfl (by decide) m4_223 d_Exp_fold_109 ?_
                    refine lv_iconst (v := 1) S.x S.b d_Exp_fold_112 (by decide) ?_
                    refine lv_icmp_ne (tgt := 124) S.x S.b d_Exp_fold_113 (by decide) (fun c48 => ?_) (fun c48 => ?_)
                    · have nc48 : ¬ (fy 2).toInt = (1 : Int) := mt (i_eq (x := (fy 2)) (y := 1)).mpr c48
                      refine lv_aload_n S.x S.b d_Exp_fold_124 rfl (lv_at hl 0 rfl) ?_
                      refine lv_iload_n S.x S.b d_Exp_fold_125 rfl (lv_at hl 1 rfl) ?_
                      refine lv_aload_n S.x S.b d_Exp_fold_126 rfl (lv_at hl 0 rfl) ?_
                      refine px_get S k_Opd hT hw 0 0 8 (v := .int (fx 8)) rfl rfl rfl (by decide) m4_235 d_Exp_fold_127 ?_
                      refine lv_aload_n S.x S.b d_Exp_fold_130 rfl (lv_at hl 2 rfl) ?_
                      refine px_get S k_Opd hT hw 1 0 8 (v := .int (fy 8)) rfl rfl rfl (by decide) m4_235 d_Exp_fold_131 ?_
                      refine px_calli (pr := [wd_Opd cs hx (fun _ => 0) (fun k => if k = 4 then ox else none) fx (fun _ _ => 0) (fun _ _ => none), wd_Opd cs hy (fun _ => 0) (fun k => if k = 4 then oy else none) fy (fun _ _ => 0) (fun _ _ => none)]) (px_runSN (As := [.int p0, .int (fx 8), .int (fy 8)]) (rest := [.ref hx]) S (c_Hs_reckon l D cs  p0 (fx 8) (fy 8)   _) hT (pr := [wd_Opd cs hx (fun _ => 0) (fun k => if k = 4 then ox else none) fx (fun _ _ => 0) (fun _ _ => none), wd_Opd cs hy (fun _ => 0) (fun k => if k = 4 then oy else none) fy (fun _ _ => 0) (fun _ _ => none)]) (pcs := []) hw px_X.tt m5_100 m5_98n m5_99 m1_1 q_Hs_reckon ⟨Nat.le_of_ble_eq_true rfl, Nat.le_of_ble_eq_true rfl⟩ hl.1 rfl (Nat.le_of_ble_eq_true rfl) d_Exp_fold_134 ⟨Nat.le_of_ble_eq_true rfl, Nat.le_of_ble_eq_true rfl⟩) hw hA (fun v51 p50 H locs hp50 hw => ?_)
                      obtain ⟨rfl, e52⟩ := hp50
                      have e52 : R_Hs_reckon p0 (fx 8) (fy 8) v51 := e52
                      have hw : pw D A s.heap H locs [wd_Opd cs hx (fun _ => 0) (fun k => if k = 4 then ox else none) fx (fun _ _ => 0) (fun _ _ => none), wd_Opd cs hy (fun _ => 0) (fun k => if k = 4 then oy else none) fy (fun _ _ => 0) (fun _ _ => none)] := hw
                      have lv51 := Int32.le_toInt v51
                      have uv51 := Int32.toInt_lt v51
                      refine px_put S k_Opd hT hw 0 0 8 rfl rfl (by decide) m4_235 rfl rfl rfl (Nat.le_of_ble_eq_true rfl) d_Exp_fold_137 (w' := wd_Opd cs hx (fun _ => 0) (fun k => if k = 4 then ox else none) (upd fx 8 v51) (fun _ _ => 0) (fun _ _ => none)) (ps' := [wd_Opd cs hx (fun _ => 0) (fun k => if k = 4 then ox else none) (upd fx 8 v51) (fun _ _ => 0) (fun _ _ => none), wd_Opd cs hy (fun _ => 0) (fun k => if k = 4 then oy else none) fy (fun _ _ => 0) (fun _ _ => none)]) rfl rfl (fun H locs hw => ?_)
                      exact J140 (upd fx 8 v51) _ _ ls (show (fx 0).toInt = (fx 0).toInt from rfl) (show (fx 3).toInt = (fx 3).toInt from rfl) (show (fx 5).toInt = (fx 5).toInt from rfl) (show K_ex_fold_140 fy p0 fx (upd fx 8 v51) from (fun y_f0 k hE => Exists.intro (k + 1) (Or.inl ⟨rfl, Or.inr ⟨nc1, Or.inl ⟨nc3, Or.inr ⟨nc5, Or.inl ⟨nc25, Or.inr ⟨nc27, Or.inr ⟨nc29, Or.inr ⟨nc31, v41, e43, Or.inl ⟨nc44, Or.inr ⟨nc46, Or.inl ⟨nc48, v51, e52, hE⟩⟩⟩⟩⟩⟩⟩⟩⟩⟩⟩))) hw (lv_sub hl [0, 1, 2] rfl)
                    · have nc48 : (fy 2).toInt = (1 : Int) := (i_eq (x := (fy 2)) (y := 1)).mp c48
                      refine lv_aload_n S.x S.b d_Exp_fold_116 rfl (lv_at hl 0 rfl) ?_
                      refine lv_iconst (v := 1) S.x S.b d_Exp_fold_117 (by decide) ?_
                      refine px_put S k_Opd hT hw 0 0 2 rfl rfl (by decide) m4_223 rfl rfl rfl (Nat.le_of_ble_eq_true rfl) d_Exp_fold_118 (w' := wd_Opd cs hx (fun _ => 0) (fun k => if k = 4 then ox else none) (upd fx 2 1) (fun _ _ => 0) (fun _ _ => none)) (ps' := [wd_Opd cs hx (fun _ => 0) (fun k => if k = 4 then ox else none) (upd fx 2 1) (fun _ _ => 0) (fun _ _ => none), wd_Opd cs hy (fun _ => 0) (fun k => if k = 4 then oy else none) fy (fun _ _ => 0) (fun _ _ => none)]) rfl rfl (fun H locs hw => ?_)
                      refine lv_goto (tgt := 140) S.x S.b d_Exp_fold_121 (by decide) ?_
                      exact J140 (upd fx 2 1) _ _ ls (show (fx 0).toInt = (fx 0).toInt from rfl) (show (fx 3).toInt = (fx 3).toInt from rfl) (show (fx 5).toInt = (fx 5).toInt from rfl) (show K_ex_fold_140 fy p0 fx (upd fx 2 1) from (fun y_f0 k hE => Exists.intro (k + 1) (Or.inl ⟨rfl, Or.inr ⟨nc1, Or.inl ⟨nc3, Or.inr ⟨nc5, Or.inl ⟨nc25, Or.inr ⟨nc27, Or.inr ⟨nc29, Or.inr ⟨nc31, v41, e43, Or.inl ⟨nc44, Or.inr ⟨nc46, Or.inr ⟨nc48, hE⟩⟩⟩⟩⟩⟩⟩⟩⟩⟩⟩))) hw (lv_sub hl [0, 1, 2] rfl)
                · have nc44 : ¬ v41.toInt = (0 : Int) := mt (i_eq (x := v41) (y := 0)).mpr c44
                  refine lv_aload_n S.x S.b d_Exp_fold_92 rfl (lv_at hl 0 rfl) ?_
                  refine lv_iconst (v := 2) S.x S.b d_Exp_fold_93 (by decide) ?_
                  refine px_put S k_Opd hT hw 0 0 2 rfl rfl (by decide) m4_223 rfl rfl rfl (Nat.le_of_ble_eq_true rfl) d_Exp_fold_94 (w' := wd_Opd cs hx (fun _ => 0) (fun k => if k = 4 then ox else none) (upd fx 2 2) (fun _ _ => 0) (fun _ _ => none)) (ps' := [wd_Opd cs hx (fun _ => 0) (fun k => if k = 4 then ox else none) (upd fx 2 2) (fun _ _ => 0) (fun _ _ => none), wd_Opd cs hy (fun _ => 0) (fun k => if k = 4 then oy else none) fy (fun _ _ => 0) (fun _ _ => none)]) rfl rfl (fun H locs hw => ?_)
                  refine lv_goto (tgt := 140) S.x S.b d_Exp_fold_97 (by decide) ?_
                  exact J140 (upd fx 2 2) _ _ ls (show (fx 0).toInt = (fx 0).toInt from rfl) (show (fx 3).toInt = (fx 3).toInt from rfl) (show (fx 5).toInt = (fx 5).toInt from rfl) (show K_ex_fold_140 fy p0 fx (upd fx 2 2) from (fun y_f0 k hE => Exists.intro (k + 1) (Or.inl ⟨rfl, Or.inr ⟨nc1, Or.inl ⟨nc3, Or.inr ⟨nc5, Or.inl ⟨nc25, Or.inr ⟨nc27, Or.inr ⟨nc29, Or.inr ⟨nc31, v41, e43, Or.inr ⟨nc44, hE⟩⟩⟩⟩⟩⟩⟩⟩⟩))) hw (lv_sub hl [0, 1, 2] rfl)
        · have nc25 : p0.toInt = (137 : Int) := (i_eq (x := p0) (y := 137)).mp c25
          refine lv_aload_n S.x S.b d_Exp_fold_38 rfl (lv_at hl 0 rfl) ?_
          refine lv_iload_n S.x S.b d_Exp_fold_39 rfl (lv_at hl 1 rfl) ?_
          refine lv_sipush (v := 137) S.x S.b d_Exp_fold_40 (by decide) ?_
          refine lv_icmp_ne (tgt := 50) S.x S.b d_Exp_fold_43 (by decide) (fun c53 => ?_) (fun c53 => ?_)
          · have nc53 : ¬ p0.toInt = (137 : Int) := mt (i_eq (x := p0) (y := 137)).mpr c53
            refine lv_iconst (v := 0) S.x S.b d_Exp_fold_50 (by decide) ?_
            refine lv_aload_n S.x S.b d_Exp_fold_51 rfl (lv_at hl 2 rfl) ?_
            refine px_callv (pr := []) (px_runS (As := [.ref hx, .int 0, .ref hy]) (rest := []) S (c_ex_foldLogic l D cs hx ox fx hy oy fy 0   _) hT (pr := []) (pcs := [wd_Opd cs hx (fun _ => 0) (fun k => if k = 4 then ox else none) fx (fun _ _ => 0) (fun _ _ => none), wd_Opd cs hy (fun _ => 0) (fun k => if k = 4 then oy else none) fy (fun _ _ => 0) (fun _ _ => none)]) hw px_X.tt m5_94 m5_92 m5_93 m1_17 q_Exp_foldLogic ⟨Nat.le_of_ble_eq_true rfl, Nat.le_of_ble_eq_true rfl⟩ hl.1 rfl (Nat.le_of_ble_eq_true rfl) d_Exp_fold_52 ⟨Nat.le_of_ble_eq_true rfl, Nat.le_of_ble_eq_true rfl⟩) hw hA (fun p57 H locs hp57 hw => ?_)
            obtain ⟨fx56, rfl, e59, e60, e61, e62⟩ := hp57
            have e59 : (fx56 0).toInt = (fx 0).toInt := e59
            have e60 : (fx56 3).toInt = (fx 3).toInt := e60
            have e61 : (fx56 5).toInt = (fx 5).toInt := e61
            have e62 : R_ex_foldLogic fy (0 : Int32) fx fx56 := e62
            have hw : pw D A s.heap H locs [wd_Opd cs hx (fun _ => 0) (fun k => if k = 4 then ox else none) fx56 (fun _ _ => 0) (fun _ _ => none), wd_Opd cs hy (fun _ => 0) (fun k => if k = 4 then oy else none) fy (fun _ _ => 0) (fun _ _ => none)] := hw
            refine lv_goto (tgt := 140) S.x S.b d_Exp_fold_55 (by decide) ?_
            exact J140 fx56 _ _ ls (show (fx56 0).toInt = (fx 0).toInt from by first | exact e59 | omega) (show (fx56 3).toInt = (fx 3).toInt from by first | exact e60 | omega) (show (fx56 5).toInt = (fx 5).toInt from by first | exact e61 | omega) (show K_ex_fold_140 fy p0 fx fx56 from (fun y_f0 k hE => Exists.intro (k + 1) (Or.inl ⟨rfl, Or.inr ⟨nc1, Or.inl ⟨nc3, Or.inr ⟨nc5, Or.inr ⟨nc25, Or.inl ⟨nc53, fx56, e62, hE⟩⟩⟩⟩⟩⟩))) hw (lv_sub hl [0, 1, 2] rfl)
          · have nc53 : p0.toInt = (137 : Int) := (i_eq (x := p0) (y := 137)).mp c53
            refine lv_iconst (v := 1) S.x S.b d_Exp_fold_46 (by decide) ?_
            refine lv_goto (tgt := 51) S.x S.b d_Exp_fold_47 (by decide) ?_
            refine lv_aload_n S.x S.b d_Exp_fold_51 rfl (lv_at hl 2 rfl) ?_
            refine px_callv (pr := []) (px_runS (As := [.ref hx, .int 1, .ref hy]) (rest := []) S (c_ex_foldLogic l D cs hx ox fx hy oy fy 1   _) hT (pr := []) (pcs := [wd_Opd cs hx (fun _ => 0) (fun k => if k = 4 then ox else none) fx (fun _ _ => 0) (fun _ _ => none), wd_Opd cs hy (fun _ => 0) (fun k => if k = 4 then oy else none) fy (fun _ _ => 0) (fun _ _ => none)]) hw px_X.tt m5_94 m5_92 m5_93 m1_17 q_Exp_foldLogic ⟨Nat.le_of_ble_eq_true rfl, Nat.le_of_ble_eq_true rfl⟩ hl.1 rfl (Nat.le_of_ble_eq_true rfl) d_Exp_fold_52 ⟨Nat.le_of_ble_eq_true rfl, Nat.le_of_ble_eq_true rfl⟩) hw hA (fun p65 H locs hp65 hw => ?_)
            obtain ⟨fx64, rfl, e67, e68, e69, e70⟩ := hp65
            have e67 : (fx64 0).toInt = (fx 0).toInt := e67
            have e68 : (fx64 3).toInt = (fx 3).toInt := e68
            have e69 : (fx64 5).toInt = (fx 5).toInt := e69
            have e70 : R_ex_foldLogic fy (1 : Int32) fx fx64 := e70
            have hw : pw D A s.heap H locs [wd_Opd cs hx (fun _ => 0) (fun k => if k = 4 then ox else none) fx64 (fun _ _ => 0) (fun _ _ => none), wd_Opd cs hy (fun _ => 0) (fun k => if k = 4 then oy else none) fy (fun _ _ => 0) (fun _ _ => none)] := hw
            refine lv_goto (tgt := 140) S.x S.b d_Exp_fold_55 (by decide) ?_
            exact J140 fx64 _ _ ls (show (fx64 0).toInt = (fx 0).toInt from by first | exact e67 | omega) (show (fx64 3).toInt = (fx 3).toInt from by first | exact e68 | omega) (show (fx64 5).toInt = (fx 5).toInt from by first | exact e69 | omega) (show K_ex_fold_140 fy p0 fx fx64 from (fun y_f0 k hE => Exists.intro (k + 1) (Or.inl ⟨rfl, Or.inr ⟨nc1, Or.inl ⟨nc3, Or.inr ⟨nc5, Or.inr ⟨nc25, Or.inr ⟨nc53, fx64, e70, hE⟩⟩⟩⟩⟩⟩))) hw (lv_sub hl [0, 1, 2] rfl)
    · have nc3 : (fy 2).toInt = (3 : Int) := (i_eq (x := (fy 2)) (y := 3)).mp c3
      refine lv_aload_n S.x S.b d_Exp_fold_16 rfl (lv_at hl 0 rfl) ?_
      refine lv_iconst (v := 3) S.x S.b d_Exp_fold_17 (by decide) ?_
      refine px_put S k_Opd hT hw 0 0 2 rfl rfl (by decide) m4_223 rfl rfl rfl (Nat.le_of_ble_eq_true rfl) d_Exp_fold_18 (w' := wd_Opd cs hx (fun _ => 0) (fun k => if k = 4 then ox else none) (upd fx 2 3) (fun _ _ => 0) (fun _ _ => none)) (ps' := [wd_Opd cs hx (fun _ => 0) (fun k => if k = 4 then ox else none) (upd fx 2 3) (fun _ _ => 0) (fun _ _ => none), wd_Opd cs hy (fun _ => 0) (fun k => if k = 4 then oy else none) fy (fun _ _ => 0) (fun _ _ => none)]) rfl rfl (fun H locs hw => ?_)
      refine lv_goto (tgt := 140) S.x S.b d_Exp_fold_21 (by decide) ?_
      exact J140 (upd fx 2 3) _ _ ls (show (fx 0).toInt = (fx 0).toInt from rfl) (show (fx 3).toInt = (fx 3).toInt from rfl) (show (fx 5).toInt = (fx 5).toInt from rfl) (show K_ex_fold_140 fy p0 fx (upd fx 2 3) from (fun y_f0 k hE => Exists.intro (k + 1) (Or.inl ⟨rfl, Or.inr ⟨nc1, Or.inr ⟨nc3, hE⟩⟩⟩))) hw (lv_sub hl [0, 1, 2] rfl)
abbrev b_Exp_chain : ByteArray := prog_3_method_12_code
def y_Exp_chain : MethodName := ⟨"HomeSystem$Expressions", "chain", "(LHomeSystem$Operand;ILHomeSystem$Operand;)V"⟩
theorem d_Exp_chain_0 : decode b_Exp_chain 0 = .ok (.aload_n 0, 1) := by decide +kernel
theorem d_Exp_chain_1 : decode b_Exp_chain 1 = .ok (.aload_n 0, 1) := by decide +kernel
theorem d_Exp_chain_2 : decode b_Exp_chain 2 = .ok (.getfield 133, 3) := by decide +kernel
theorem d_Exp_chain_5 : decode b_Exp_chain 5 = .ok (.iload_n 1, 1) := by decide +kernel
theorem d_Exp_chain_6 : decode b_Exp_chain 6 = .ok (.if_icmp .ne 10, 3) := by decide +kernel
theorem d_Exp_chain_9 : decode b_Exp_chain 9 = .ok (.aload_n 0, 1) := by decide +kernel
theorem d_Exp_chain_10 : decode b_Exp_chain 10 = .ok (.getfield 41, 3) := by decide +kernel
theorem d_Exp_chain_13 : decode b_Exp_chain 13 = .ok (.goto 9, 3) := by decide +kernel
theorem d_Exp_chain_16 : decode b_Exp_chain 16 = .ok (.aload_n 0, 1) := by decide +kernel
theorem d_Exp_chain_17 : decode b_Exp_chain 17 = .ok (.getfield 41, 3) := by decide +kernel
theorem d_Exp_chain_20 : decode b_Exp_chain 20 = .ok (.iconst 1, 1) := by decide +kernel
theorem d_Exp_chain_21 : decode b_Exp_chain 21 = .ok (.iadd, 1) := by decide +kernel
theorem d_Exp_chain_22 : decode b_Exp_chain 22 = .ok (.aload_n 2, 1) := by decide +kernel
theorem d_Exp_chain_23 : decode b_Exp_chain 23 = .ok (.getfield 41, 3) := by decide +kernel
theorem d_Exp_chain_26 : decode b_Exp_chain 26 = .ok (.iconst 1, 1) := by decide +kernel
theorem d_Exp_chain_27 : decode b_Exp_chain 27 = .ok (.iadd, 1) := by decide +kernel
theorem d_Exp_chain_28 : decode b_Exp_chain 28 = .ok (.invokestatic 135, 3) := by decide +kernel
theorem d_Exp_chain_31 : decode b_Exp_chain 31 = .ok (.putfield 41, 3) := by decide +kernel
theorem d_Exp_chain_34 : decode b_Exp_chain 34 = .ok (.aload_n 0, 1) := by decide +kernel
theorem d_Exp_chain_35 : decode b_Exp_chain 35 = .ok (.aload_n 0, 1) := by decide +kernel
theorem d_Exp_chain_36 : decode b_Exp_chain 36 = .ok (.getfield 141, 3) := by decide +kernel
theorem d_Exp_chain_39 : decode b_Exp_chain 39 = .ok (.aload_n 2, 1) := by decide +kernel
theorem d_Exp_chain_40 : decode b_Exp_chain 40 = .ok (.getfield 141, 3) := by decide +kernel
theorem d_Exp_chain_43 : decode b_Exp_chain 43 = .ok (.iconst 1, 1) := by decide +kernel
theorem d_Exp_chain_44 : decode b_Exp_chain 44 = .ok (.iadd, 1) := by decide +kernel
theorem d_Exp_chain_45 : decode b_Exp_chain 45 = .ok (.invokestatic 135, 3) := by decide +kernel
theorem d_Exp_chain_48 : decode b_Exp_chain 48 = .ok (.putfield 141, 3) := by decide +kernel
theorem d_Exp_chain_51 : decode b_Exp_chain 51 = .ok (.aload_n 0, 1) := by decide +kernel
theorem d_Exp_chain_52 : decode b_Exp_chain 52 = .ok (.iload_n 1, 1) := by decide +kernel
theorem d_Exp_chain_53 : decode b_Exp_chain 53 = .ok (.putfield 133, 3) := by decide +kernel
theorem d_Exp_chain_56 : decode b_Exp_chain 56 = .ok (.return_, 1) := by decide +kernel
theorem q_Exp_chain : px_y y_Exp_chain 3 := by unfold px_y; decide +kernel
set_option maxHeartbeats 4000000 in
set_option maxRecDepth 100000 in
theorem c_ex_chain (l : Launch) (D : va_G) (cs : Nat → ClassId) (hx : Nat) (ox : Option Nat) (fx : Nat → Int32) (hy : Nat) (oy : Option Nat) (fy : Nat → Int32) (p0 : Int32)  (g0 : 1 ≤ (fx 5).toInt) (g1 : (fx 5).toInt ≤ 1000000) (g2 : 1 ≤ (fy 5).toInt) (g3 : (fy 5).toInt ≤ 1000000) : MetV l y_Exp_chain b_Exp_chain 3 D cs 1 40 (0) (0) [.ref hx, .int p0, .ref hy] [wd_Opd cs hx (fun _ => 0) (fun k => if k = 4 then ox else none) fx (fun _ _ => 0) (fun _ _ => none), wd_Opd cs hy (fun _ => 0) (fun k => if k = 4 then oy else none) fy (fun _ _ => 0) (fun _ _ => none)] (fun _ => True) (fun ps => ∃ (fx' : Nat → Int32), (ps = [wd_Opd cs hx (fun _ => 0) (fun k => if k = 4 then ox else none) fx' (fun _ _ => 0) (fun _ _ => none), wd_Opd cs hy (fun _ => 0) (fun k => if k = 4 then oy else none) fy (fun _ _ => 0) (fun _ _ => none)]) ∧ ((fx' 0).toInt = (fx 0).toInt) ∧ ((fx' 3).toInt = (fx 3).toInt) ∧ (1 ≤ (fx' 5).toInt) ∧ ((fx' 5).toInt ≤ (fx 5).toInt + 1 ∨ (fx' 5).toInt ≤ (fy 5).toInt + 1) ∧ (R_ex_chain fy p0 fx fx')) := by
  refine px_enter (by decide) (Nat.le_of_ble_eq_true rfl) ?_
  intro p e s m below meth c A ls hAe S hr hlk hnm hA hT hX hw hl
  have hl : lv_has ls 3 [(0, .ref hx), (1, .int p0), (2, .ref hy)] := hl
  have lp0 := Int32.le_toInt p0
  have up0 := Int32.toInt_lt p0
  have cst1 : (1 : Int32).toInt = 1 := rfl
  refine lv_aload_n S.x S.b d_Exp_chain_0 rfl (lv_at hl 0 rfl) ?_
  refine lv_aload_n S.x S.b d_Exp_chain_1 rfl (lv_at hl 0 rfl) ?_
  refine px_get S k_Opd hT hw 0 0 7 (v := .int (fx 7)) rfl rfl rfl (by decide) m4_233 d_Exp_chain_2 ?_
  refine lv_iload_n S.x S.b d_Exp_chain_5 rfl (lv_at hl 1 rfl) ?_
  refine lv_icmp_ne (tgt := 16) S.x S.b d_Exp_chain_6 (by decide) (fun c1 => ?_) (fun c1 => ?_)
  · have nc1 : ¬ (fx 7).toInt = p0.toInt := mt (i_eq (x := (fx 7)) (y := p0)).mpr c1
    refine lv_aload_n S.x S.b d_Exp_chain_16 rfl (lv_at hl 0 rfl) ?_
    refine px_get S k_Opd hT hw 0 0 5 (v := .int (fx 5)) rfl rfl rfl (by decide) m4_228 d_Exp_chain_17 ?_
    refine lv_iconst (v := 1) S.x S.b d_Exp_chain_20 (by decide) ?_
    refine lv_iadd S.x S.b d_Exp_chain_21 ?_
    have lr3 := Int32.le_toInt (fx 5)
    have ur3 := Int32.toInt_lt (fx 5)
    refine lv_topi (fun z4 ez4 => ?_)
    have tz4 : z4.toInt = ((fx 5).toInt + (1 : Int) + 2147483648) % 4294967296 - 2147483648 := by rw [ez4]; exact i_add (fx 5) 1
    have lz4 := Int32.le_toInt z4
    have uz4 := Int32.toInt_lt z4
    try replace tz4 : z4.toInt = (fx 5).toInt + (1 : Int) := by omega
    refine lv_aload_n S.x S.b d_Exp_chain_22 rfl (lv_at hl 2 rfl) ?_
    refine px_get S k_Opd hT hw 1 0 5 (v := .int (fy 5)) rfl rfl rfl (by decide) m4_228 d_Exp_chain_23 ?_
    refine lv_iconst (v := 1) S.x S.b d_Exp_chain_26 (by decide) ?_
    refine lv_iadd S.x S.b d_Exp_chain_27 ?_
    have lr5 := Int32.le_toInt (fy 5)
    have ur5 := Int32.toInt_lt (fy 5)
    refine lv_topi (fun z6 ez6 => ?_)
    have tz6 : z6.toInt = ((fy 5).toInt + (1 : Int) + 2147483648) % 4294967296 - 2147483648 := by rw [ez6]; exact i_add (fy 5) 1
    have lz6 := Int32.le_toInt z6
    have uz6 := Int32.toInt_lt z6
    try replace tz6 : z6.toInt = (fy 5).toInt + (1 : Int) := by omega
    refine va_mmax S.x S.b (by rw [S.ml]; exact hl.1.symm) S.own (S.w m5_43) (S.w m2_26) (S.w m1_13) (S.w m2_27) (Nat.le_of_ble_eq_true rfl) (Nat.le_of_ble_eq_true rfl) (Nat.zero_le _) (Nat.zero_le _) d_Exp_chain_28 ?_
    refine lv_topi (fun z7 ez7 => ?_)
    have tz7 := i_max z4 z6 ez7
    have lz7 := Int32.le_toInt z7
    have uz7 := Int32.toInt_lt z7
    refine px_put S k_Opd hT hw 0 0 5 rfl rfl (by decide) m4_228 rfl rfl rfl (Nat.le_of_ble_eq_true rfl) d_Exp_chain_31 (w' := wd_Opd cs hx (fun _ => 0) (fun k => if k = 4 then ox else none) (upd fx 5 z7) (fun _ _ => 0) (fun _ _ => none)) (ps' := [wd_Opd cs hx (fun _ => 0) (fun k => if k = 4 then ox else none) (upd fx 5 z7) (fun _ _ => 0) (fun _ _ => none), wd_Opd cs hy (fun _ => 0) (fun k => if k = 4 then oy else none) fy (fun _ _ => 0) (fun _ _ => none)]) rfl rfl (fun H locs hw => ?_)
    refine lv_aload_n S.x S.b d_Exp_chain_34 rfl (lv_at hl 0 rfl) ?_
    refine lv_aload_n S.x S.b d_Exp_chain_35 rfl (lv_at hl 0 rfl) ?_
    refine px_get S k_Opd hT hw 0 0 6 (v := .int (fx 6)) rfl rfl rfl (by decide) m4_230 d_Exp_chain_36 ?_
    refine lv_aload_n S.x S.b d_Exp_chain_39 rfl (lv_at hl 2 rfl) ?_
    refine px_get S k_Opd hT hw 1 0 6 (v := .int (fy 6)) rfl rfl rfl (by decide) m4_230 d_Exp_chain_40 ?_
    refine lv_iconst (v := 1) S.x S.b d_Exp_chain_43 (by decide) ?_
    refine lv_iadd S.x S.b d_Exp_chain_44 ?_
    have lr8 := Int32.le_toInt (fy 6)
    have ur8 := Int32.toInt_lt (fy 6)
    refine lv_topi (fun z9 ez9 => ?_)
    have lz9 := Int32.le_toInt z9
    have uz9 := Int32.toInt_lt z9
    refine va_mmax S.x S.b (by rw [S.ml]; exact hl.1.symm) S.own (S.w m5_43) (S.w m2_26) (S.w m1_13) (S.w m2_27) (Nat.le_of_ble_eq_true rfl) (Nat.le_of_ble_eq_true rfl) (Nat.zero_le _) (Nat.zero_le _) d_Exp_chain_45 ?_
    refine lv_topi (fun z10 ez10 => ?_)
    have tz10 := i_max (fx 6) z9 ez10
    have lz10 := Int32.le_toInt z10
    have uz10 := Int32.toInt_lt z10
    refine px_put S k_Opd hT hw 0 0 6 rfl rfl (by decide) m4_230 rfl rfl rfl (Nat.le_of_ble_eq_true rfl) d_Exp_chain_48 (w' := wd_Opd cs hx (fun _ => 0) (fun k => if k = 4 then ox else none) (upd (upd fx 5 z7) 6 z10) (fun _ _ => 0) (fun _ _ => none)) (ps' := [wd_Opd cs hx (fun _ => 0) (fun k => if k = 4 then ox else none) (upd (upd fx 5 z7) 6 z10) (fun _ _ => 0) (fun _ _ => none), wd_Opd cs hy (fun _ => 0) (fun k => if k = 4 then oy else none) fy (fun _ _ => 0) (fun _ _ => none)]) rfl rfl (fun H locs hw => ?_)
    refine lv_aload_n S.x S.b d_Exp_chain_51 rfl (lv_at hl 0 rfl) ?_
    refine lv_iload_n S.x S.b d_Exp_chain_52 rfl (lv_at hl 1 rfl) ?_
    refine px_put S k_Opd hT hw 0 0 7 rfl rfl (by decide) m4_233 rfl rfl rfl (Nat.le_of_ble_eq_true rfl) d_Exp_chain_53 (w' := wd_Opd cs hx (fun _ => 0) (fun k => if k = 4 then ox else none) (upd (upd (upd fx 5 z7) 6 z10) 7 p0) (fun _ _ => 0) (fun _ _ => none)) (ps' := [wd_Opd cs hx (fun _ => 0) (fun k => if k = 4 then ox else none) (upd (upd (upd fx 5 z7) 6 z10) 7 p0) (fun _ _ => 0) (fun _ _ => none), wd_Opd cs hy (fun _ => 0) (fun k => if k = 4 then oy else none) fy (fun _ _ => 0) (fun _ _ => none)]) rfl rfl (fun H locs hw => ?_)
    exact px_vret S hr hlk hAe hw (Nat.le_of_ble_eq_true rfl) (Nat.le_of_ble_eq_true rfl) (⟨(upd (upd (upd fx 5 z7) 6 z10) 7 p0), rfl, (show (fx 0).toInt = (fx 0).toInt from rfl), (show (fx 3).toInt = (fx 3).toInt from rfl), (show 1 ≤ z7.toInt from by first | exact oz_4244efe5c1 tz7.1 tz4 g0 | omega), (show z7.toInt ≤ (fx 5).toInt + 1 ∨ z7.toInt ≤ (fy 5).toInt + 1 from by omega), (show R_ex_chain fy p0 fx (upd (upd (upd fx 5 z7) 6 z10) 7 p0) from (Or.inl (Or.inl ⟨nc1, z4, ez4, z6, ez6, z7, ez7, z9, ez9, z10, ez10, rfl⟩)))⟩) d_Exp_chain_56
  · have nc1 : (fx 7).toInt = p0.toInt := (i_eq (x := (fx 7)) (y := p0)).mp c1
    refine lv_aload_n S.x S.b d_Exp_chain_9 rfl (lv_at hl 0 rfl) ?_
    refine px_get S k_Opd hT hw 0 0 5 (v := .int (fx 5)) rfl rfl rfl (by decide) m4_228 d_Exp_chain_10 ?_
    refine lv_goto (tgt := 22) S.x S.b d_Exp_chain_13 (by decide) ?_
    refine lv_aload_n S.x S.b d_Exp_chain_22 rfl (lv_at hl 2 rfl) ?_
    refine px_get S k_Opd hT hw 1 0 5 (v := .int (fy 5)) rfl rfl rfl (by decide) m4_228 d_Exp_chain_23 ?_
    refine lv_iconst (v := 1) S.x S.b d_Exp_chain_26 (by decide) ?_
    refine lv_iadd S.x S.b d_Exp_chain_27 ?_
    have lr11 := Int32.le_toInt (fy 5)
    have ur11 := Int32.toInt_lt (fy 5)
    refine lv_topi (fun z12 ez12 => ?_)
    have tz12 : z12.toInt = ((fy 5).toInt + (1 : Int) + 2147483648) % 4294967296 - 2147483648 := by rw [ez12]; exact i_add (fy 5) 1
    have lz12 := Int32.le_toInt z12
    have uz12 := Int32.toInt_lt z12
    try replace tz12 : z12.toInt = (fy 5).toInt + (1 : Int) := by omega
    refine va_mmax S.x S.b (by rw [S.ml]; exact hl.1.symm) S.own (S.w m5_43) (S.w m2_26) (S.w m1_13) (S.w m2_27) (Nat.le_of_ble_eq_true rfl) (Nat.le_of_ble_eq_true rfl) (Nat.zero_le _) (Nat.zero_le _) d_Exp_chain_28 ?_
    refine lv_topi (fun z13 ez13 => ?_)
    have tz13 := i_max (fx 5) z12 ez13
    have lz13 := Int32.le_toInt z13
    have uz13 := Int32.toInt_lt z13
    refine px_put S k_Opd hT hw 0 0 5 rfl rfl (by decide) m4_228 rfl rfl rfl (Nat.le_of_ble_eq_true rfl) d_Exp_chain_31 (w' := wd_Opd cs hx (fun _ => 0) (fun k => if k = 4 then ox else none) (upd fx 5 z13) (fun _ _ => 0) (fun _ _ => none)) (ps' := [wd_Opd cs hx (fun _ => 0) (fun k => if k = 4 then ox else none) (upd fx 5 z13) (fun _ _ => 0) (fun _ _ => none), wd_Opd cs hy (fun _ => 0) (fun k => if k = 4 then oy else none) fy (fun _ _ => 0) (fun _ _ => none)]) rfl rfl (fun H locs hw => ?_)
    refine lv_aload_n S.x S.b d_Exp_chain_34 rfl (lv_at hl 0 rfl) ?_
    refine lv_aload_n S.x S.b d_Exp_chain_35 rfl (lv_at hl 0 rfl) ?_
    refine px_get S k_Opd hT hw 0 0 6 (v := .int (fx 6)) rfl rfl rfl (by decide) m4_230 d_Exp_chain_36 ?_
    refine lv_aload_n S.x S.b d_Exp_chain_39 rfl (lv_at hl 2 rfl) ?_
    refine px_get S k_Opd hT hw 1 0 6 (v := .int (fy 6)) rfl rfl rfl (by decide) m4_230 d_Exp_chain_40 ?_
    refine lv_iconst (v := 1) S.x S.b d_Exp_chain_43 (by decide) ?_
    refine lv_iadd S.x S.b d_Exp_chain_44 ?_
    have lr14 := Int32.le_toInt (fy 6)
    have ur14 := Int32.toInt_lt (fy 6)
    refine lv_topi (fun z15 ez15 => ?_)
    have lz15 := Int32.le_toInt z15
    have uz15 := Int32.toInt_lt z15
    refine va_mmax S.x S.b (by rw [S.ml]; exact hl.1.symm) S.own (S.w m5_43) (S.w m2_26) (S.w m1_13) (S.w m2_27) (Nat.le_of_ble_eq_true rfl) (Nat.le_of_ble_eq_true rfl) (Nat.zero_le _) (Nat.zero_le _) d_Exp_chain_45 ?_
    refine lv_topi (fun z16 ez16 => ?_)
    have tz16 := i_max (fx 6) z15 ez16
    have lz16 := Int32.le_toInt z16
    have uz16 := Int32.toInt_lt z16
    refine px_put S k_Opd hT hw 0 0 6 rfl rfl (by decide) m4_230 rfl rfl rfl (Nat.le_of_ble_eq_true rfl) d_Exp_chain_48 (w' := wd_Opd cs hx (fun _ => 0) (fun k => if k = 4 then ox else none) (upd (upd fx 5 z13) 6 z16) (fun _ _ => 0) (fun _ _ => none)) (ps' := [wd_Opd cs hx (fun _ => 0) (fun k => if k = 4 then ox else none) (upd (upd fx 5 z13) 6 z16) (fun _ _ => 0) (fun _ _ => none), wd_Opd cs hy (fun _ => 0) (fun k => if k = 4 then oy else none) fy (fun _ _ => 0) (fun _ _ => none)]) rfl rfl (fun H locs hw => ?_)
    refine lv_aload_n S.x S.b d_Exp_chain_51 rfl (lv_at hl 0 rfl) ?_
    refine lv_iload_n S.x S.b d_Exp_chain_52 rfl (lv_at hl 1 rfl) ?_
    refine px_put S k_Opd hT hw 0 0 7 rfl rfl (by decide) m4_233 rfl rfl rfl (Nat.le_of_ble_eq_true rfl) d_Exp_chain_53 (w' := wd_Opd cs hx (fun _ => 0) (fun k => if k = 4 then ox else none) (upd (upd (upd fx 5 z13) 6 z16) 7 p0) (fun _ _ => 0) (fun _ _ => none)) (ps' := [wd_Opd cs hx (fun _ => 0) (fun k => if k = 4 then ox else none) (upd (upd (upd fx 5 z13) 6 z16) 7 p0) (fun _ _ => 0) (fun _ _ => none), wd_Opd cs hy (fun _ => 0) (fun k => if k = 4 then oy else none) fy (fun _ _ => 0) (fun _ _ => none)]) rfl rfl (fun H locs hw => ?_)
    exact px_vret S hr hlk hAe hw (Nat.le_of_ble_eq_true rfl) (Nat.le_of_ble_eq_true rfl) (⟨(upd (upd (upd fx 5 z13) 6 z16) 7 p0), rfl, (show (fx 0).toInt = (fx 0).toInt from rfl), (show (fx 3).toInt = (fx 3).toInt from rfl), (show 1 ≤ z13.toInt from by first | exact oz_290fdae571 tz13.1 g0 | omega), (show z13.toInt ≤ (fx 5).toInt + 1 ∨ z13.toInt ≤ (fy 5).toInt + 1 from by omega), (show R_ex_chain fy p0 fx (upd (upd (upd fx 5 z13) 6 z16) 7 p0) from (Or.inl (Or.inr ⟨nc1, z12, ez12, z13, ez13, z15, ez15, z16, ez16, rfl⟩)))⟩) d_Exp_chain_56
abbrev b_Exp_isTarget : ByteArray := prog_3_method_14_code
def y_Exp_isTarget : MethodName := ⟨"HomeSystem$Expressions", "isTarget", "(LHomeSystem$Operand;)Z"⟩
theorem d_Exp_isTarget_0 : decode b_Exp_isTarget 0 = .ok (.aload_n 1, 1) := by decide +kernel
theorem d_Exp_isTarget_1 : decode b_Exp_isTarget 1 = .ok (.getfield 79, 3) := by decide +kernel
theorem d_Exp_isTarget_4 : decode b_Exp_isTarget 4 = .ok (.iconst 2, 1) := by decide +kernel
theorem d_Exp_isTarget_5 : decode b_Exp_isTarget 5 = .ok (.if_icmp .ne 18, 3) := by decide +kernel
theorem d_Exp_isTarget_8 : decode b_Exp_isTarget 8 = .ok (.aload_n 0, 1) := by decide +kernel
theorem d_Exp_isTarget_9 : decode b_Exp_isTarget 9 = .ok (.getfield 9, 3) := by decide +kernel
theorem d_Exp_isTarget_12 : decode b_Exp_isTarget 12 = .ok (.iconst 3, 1) := by decide +kernel
theorem d_Exp_isTarget_13 : decode b_Exp_isTarget 13 = .ok (.aload_n 1, 1) := by decide +kernel
theorem d_Exp_isTarget_14 : decode b_Exp_isTarget 14 = .ok (.getfield 82, 3) := by decide +kernel
theorem d_Exp_isTarget_17 : decode b_Exp_isTarget 17 = .ok (.invokevirtual 85, 3) := by decide +kernel
theorem d_Exp_isTarget_20 : decode b_Exp_isTarget 20 = .ok (.goto 31, 3) := by decide +kernel
theorem d_Exp_isTarget_23 : decode b_Exp_isTarget 23 = .ok (.aload_n 1, 1) := by decide +kernel
theorem d_Exp_isTarget_24 : decode b_Exp_isTarget 24 = .ok (.getfield 79, 3) := by decide +kernel
theorem d_Exp_isTarget_27 : decode b_Exp_isTarget 27 = .ok (.ifCond .eq 11, 3) := by decide +kernel
theorem d_Exp_isTarget_30 : decode b_Exp_isTarget 30 = .ok (.aload_n 1, 1) := by decide +kernel
theorem d_Exp_isTarget_31 : decode b_Exp_isTarget 31 = .ok (.getfield 79, 3) := by decide +kernel
theorem d_Exp_isTarget_34 : decode b_Exp_isTarget 34 = .ok (.iconst 3, 1) := by decide +kernel
theorem d_Exp_isTarget_35 : decode b_Exp_isTarget 35 = .ok (.if_icmp .ne 16, 3) := by decide +kernel
theorem d_Exp_isTarget_38 : decode b_Exp_isTarget 38 = .ok (.aload_n 0, 1) := by decide +kernel
theorem d_Exp_isTarget_39 : decode b_Exp_isTarget 39 = .ok (.getfield 9, 3) := by decide +kernel
theorem d_Exp_isTarget_42 : decode b_Exp_isTarget 42 = .ok (.bipush 6, 2) := by decide +kernel
theorem d_Exp_isTarget_44 : decode b_Exp_isTarget 44 = .ok (.aload_n 1, 1) := by decide +kernel
theorem d_Exp_isTarget_45 : decode b_Exp_isTarget 45 = .ok (.getfield 82, 3) := by decide +kernel
theorem d_Exp_isTarget_48 : decode b_Exp_isTarget 48 = .ok (.invokevirtual 85, 3) := by decide +kernel
theorem d_Exp_isTarget_51 : decode b_Exp_isTarget 51 = .ok (.aload_n 1, 1) := by decide +kernel
theorem d_Exp_isTarget_52 : decode b_Exp_isTarget 52 = .ok (.getfield 79, 3) := by decide +kernel
theorem d_Exp_isTarget_55 : decode b_Exp_isTarget 55 = .ok (.iconst 1, 1) := by decide +kernel
theorem d_Exp_isTarget_56 : decode b_Exp_isTarget 56 = .ok (.if_icmp .ne 14, 3) := by decide +kernel
theorem d_Exp_isTarget_59 : decode b_Exp_isTarget 59 = .ok (.aload_n 1, 1) := by decide +kernel
theorem d_Exp_isTarget_60 : decode b_Exp_isTarget 60 = .ok (.getfield 91, 3) := by decide +kernel
theorem d_Exp_isTarget_63 : decode b_Exp_isTarget 63 = .ok (.ifnull 7, 3) := by decide +kernel
theorem d_Exp_isTarget_66 : decode b_Exp_isTarget 66 = .ok (.iconst 1, 1) := by decide +kernel
theorem d_Exp_isTarget_67 : decode b_Exp_isTarget 67 = .ok (.goto 4, 3) := by decide +kernel
theorem d_Exp_isTarget_70 : decode b_Exp_isTarget 70 = .ok (.iconst 0, 1) := by decide +kernel
theorem d_Exp_isTarget_71 : decode b_Exp_isTarget 71 = .ok (.ireturn, 1) := by decide +kernel
theorem q_Exp_isTarget : px_y y_Exp_isTarget 1 := by unfold px_y; decide +kernel
set_option maxHeartbeats 4000000 in
set_option maxRecDepth 100000 in
theorem c_ex_isTarget (l : Launch) (D : va_G) (cs : Nat → ClassId) (he : Nat) (re : Nat → Nat) (eo : Nat → Option Nat) (ef : Nat → Int32) (ea : Nat → Nat → Int32) (eg : Nat → Nat → Option Nat) (rt : Nat → Nat) (ot : Nat → Option Nat) (ta : Nat → Nat → Int32) (tg : Nat → Nat → Option Nat) (tf : Nat → Int32) (hx : Nat) (ox : Option Nat) (fx : Nat → Int32)  (hinv0 : CurOk (tf 10) (tf 13) (tf 14) (tf 15) (tf 17) (ta 0)) (g0 : 0 ≤ (fx 0).toInt) (g1 : 0 ≤ (fx 3).toInt) : MetI l y_Exp_isTarget b_Exp_isTarget 2 (.boolean) D cs 1 40 (0) (0) [.ref he, .ref hx] [wd_Exp cs he re eo ef ea eg, wd_Tok cs (re 0) rt ot tf ta tg, wd_Opd cs hx (fun _ => 0) (fun k => if k = 4 then ox else none) fx (fun _ _ => 0) (fun _ _ => none)] (fun _ => True) (fun v ps => ∃ (tf' : Nat → Int32), (ps = [wd_Exp cs he re eo ef ea eg, wd_Tok cs (re 0) rt ot tf' ta tg, wd_Opd cs hx (fun _ => 0) (fun k => if k = 4 then ox else none) fx (fun _ _ => 0) (fun _ _ => none)]) ∧ (CurOk (tf' 10) (tf' 13) (tf' 14) (tf' 15) (tf' 17) (ta 0)) ∧ (v = 0 ∨ v = 1) ∧ ((tf' 10).toInt = (tf 10).toInt) ∧ ((tf' 13).toInt = (tf 13).toInt) ∧ ((tf' 14).toInt = (tf 14).toInt) ∧ ((tf' 15).toInt = (tf 15).toInt) ∧ (Nn v ox) ∧ (R_ex_isTarget ox fx tf tf' v)) := by
  refine px_enter (by decide) (Nat.le_of_ble_eq_true rfl) ?_
  intro p e s m below meth c A ls hAe S hr hlk hnm hA hT hX hw hl
  have hl : lv_has ls 2 [(0, .ref he), (1, .ref hx)] := hl
  have cst0 : (0 : Int32).toInt = 0 := rfl
  have cst1 : (1 : Int32).toInt = 1 := rfl
  have cst2 : (2 : Int32).toInt = 2 := rfl
  have cst3 : (3 : Int32).toInt = 3 := rfl
  have cst6 : (6 : Int32).toInt = 6 := rfl
  obtain ⟨⟨o1, o2⟩, ⟨o3, o4⟩, ⟨o5, o6⟩, o7, o8, hlast⟩ := hinv0
  have J51 : ∀ (tf_51 : Nat → Int32) (H : Heap) (locs : List Loc) (ls : Array Slot), (CurOk (tf_51 10) (tf_51 13) (tf_51 14) (tf_51 15) (tf_51 17) (ta 0)) → ((tf_51 10).toInt = (tf 10).toInt) → ((tf_51 13).toInt = (tf 13).toInt) → ((tf_51 14).toInt = (tf 14).toInt) → ((tf_51 15).toInt = (tf 15).toInt) → (K_ex_isTarget_51 ox fx tf tf_51) → pw D A s.heap H locs [wd_Exp cs he re eo ef ea eg, wd_Tok cs (re 0) rt ot tf_51 ta tg, wd_Opd cs hx (fun _ => 0) (fun k => if k = 4 then ox else none) fx (fun _ _ => 0) (fun _ _ => none)] → lv_has ls 2 [(0, .ref he), (1, .ref hx)] → W p l e { frames := 1, cells := 0, slots := 0, locals := 40 } s m [.ref he, .ref hx].toArray below meth c H locs 0 0 (MQ below (va_Qi (fun v ps => ∃ (tf' : Nat → Int32), (ps = [wd_Exp cs he re eo ef ea eg, wd_Tok cs (re 0) rt ot tf' ta tg, wd_Opd cs hx (fun _ => 0) (fun k => if k = 4 then ox else none) fx (fun _ _ => 0) (fun _ _ => none)]) ∧ (CurOk (tf' 10) (tf' 13) (tf' 14) (tf' 15) (tf' 17) (ta 0)) ∧ (v = 0 ∨ v = 1) ∧ ((tf' 10).toInt = (tf 10).toInt) ∧ ((tf' 13).toInt = (tf 13).toInt) ∧ ((tf' 14).toInt = (tf 14).toInt) ∧ ((tf' 15).toInt = (tf 15).toInt) ∧ (Nn v ox) ∧ (R_ex_isTarget ox fx tf tf' v)) (pc_B D (va_A ([wd_Exp cs he re eo ef ea eg, wd_Tok cs (re 0) rt ot tf ta tg, wd_Opd cs hx (fun _ => 0) (fun k => if k = 4 then ox else none) fx (fun _ _ => 0) (fun _ _ => none)] : List va_W).flatten s.heap.size)) (va_A ([wd_Exp cs he re eo ef ea eg, wd_Tok cs (re 0) rt ot tf ta tg, wd_Opd cs hx (fun _ => 0) (fun k => if k = 4 then ox else none) fx (fun _ _ => 0) (fun _ _ => none)] : List va_W).flatten s.heap.size)) [.ref he, .ref hx].toArray s 0 0 A) (F0 m 51 ls []) := by
    intro tf_51 H locs ls hi51_0 k51_0 k51_1 k51_2 k51_3 k51_4 hw hl
    obtain ⟨⟨o1, o2⟩, ⟨o3, o4⟩, ⟨o5, o6⟩, o7, o8, hlast⟩ := hi51_0
    refine lv_aload_n S.x S.b d_Exp_isTarget_51 rfl (lv_at hl 1 rfl) ?_
    refine px_get S k_Opd hT hw 2 0 1 (v := .int (fx 1)) rfl rfl rfl (by decide) m4_221 d_Exp_isTarget_52 ?_
    refine lv_iconst (v := 1) S.x S.b d_Exp_isTarget_55 (by decide) ?_
    refine lv_icmp_ne (tgt := 70) S.x S.b d_Exp_isTarget_56 (by decide) (fun c1 => ?_) (fun c1 => ?_)
    · have nc1 : ¬ (fx 1).toInt = (1 : Int) := mt (i_eq (x := (fx 1)) (y := 1)).mpr c1
      refine lv_iconst (v := 0) S.x S.b d_Exp_isTarget_70 (by decide) ?_
      exact px_iret (v := 0) S hr rfl hlk hAe hw (Nat.le_of_ble_eq_true rfl) (Nat.le_of_ble_eq_true rfl) (⟨tf_51, rfl, (show CurOk (tf_51 10) (tf_51 13) (tf_51 14) (tf_51 15) (tf_51 17) (ta 0) from ⟨⟨by first | exact o1 | omega, by first | exact o2 | omega⟩, ⟨by first | exact o3 | omega, by first | exact o4 | omega⟩, ⟨by first | exact o5 | omega, by first | exact o6 | omega⟩, by first | exact o7 | omega, by omega, last_eq hlast (rfl)⟩), (show (0 : Int32) = 0 ∨ (0 : Int32) = 1 from by first | exact Or.inl rfl | exact Or.inr rfl | exact z_or (by omega)), (show (tf_51 10).toInt = (tf 10).toInt from by first | exact k51_0 | omega), (show (tf_51 13).toInt = (tf 13).toInt from by first | exact k51_1 | omega), (show (tf_51 14).toInt = (tf 14).toInt from by first | exact k51_2 | omega), (show (tf_51 15).toInt = (tf 15).toInt from by first | exact k51_3 | omega), (show Nn (0 : Int32) ox from (by first | exact fun h => ⟨_, rfl⟩ | exact fun h => absurd h (by omega) | exact fun h => absurd h (by decide))), (show R_ex_isTarget ox fx tf tf_51 (0 : Int32) from (k51_4 _ _ 1 (Or.inr (Or.inl ⟨rfl, rfl, rfl, rfl, rfl, rfl, Or.inl ⟨nc1, rfl, rfl⟩⟩))))⟩) d_Exp_isTarget_71
    · have nc1 : (fx 1).toInt = (1 : Int) := (i_eq (x := (fx 1)) (y := 1)).mp c1
      refine lv_aload_n S.x S.b d_Exp_isTarget_59 rfl (lv_at hl 1 rfl) ?_
      refine px_get S k_Opd hT hw 2 0 4 (v := va_rf ox) rfl rfl rfl (by decide) m4_226 d_Exp_isTarget_60 ?_
      refine lq_ifnull (x := ox) (tgt := 70) S.x S.b d_Exp_isTarget_63 (by decide) (fun c3 => ?_) (fun q4 c3 => ?_)
      ·
        subst c3
        refine lv_iconst (v := 0) S.x S.b d_Exp_isTarget_70 (by decide) ?_
        exact px_iret (v := 0) S hr rfl hlk hAe hw (Nat.le_of_ble_eq_true rfl) (Nat.le_of_ble_eq_true rfl) (⟨tf_51, rfl, (show CurOk (tf_51 10) (tf_51 13) (tf_51 14) (tf_51 15) (tf_51 17) (ta 0) from ⟨⟨by first | exact o1 | omega, by first | exact o2 | omega⟩, ⟨by first | exact o3 | omega, by first | exact o4 | omega⟩, ⟨by first | exact o5 | omega, by first | exact o6 | omega⟩, by first | exact o7 | omega, by omega, last_eq hlast (rfl)⟩), (show (0 : Int32) = 0 ∨ (0 : Int32) = 1 from by first | exact Or.inl rfl | exact Or.inr rfl | exact z_or (by omega)), (show (tf_51 10).toInt = (tf 10).toInt from by first | exact k51_0 | omega), (show (tf_51 13).toInt = (tf 13).toInt from by first | exact k51_1 | omega), (show (tf_51 14).toInt = (tf 14).toInt from by first | exact k51_2 | omega), (show (tf_51 15).toInt = (tf 15).toInt from by first | exact k51_3 | omega), (show Nn (0 : Int32) none from (by first | exact fun h => ⟨_, rfl⟩ | exact fun h => absurd h (by omega) | exact fun h => absurd h (by decide))), (show R_ex_isTarget none fx tf tf_51 (0 : Int32) from (k51_4 _ _ 1 (Or.inr (Or.inl ⟨rfl, rfl, rfl, rfl, rfl, rfl, Or.inr ⟨nc1, Or.inl ⟨rfl, rfl, rfl⟩⟩⟩))))⟩) d_Exp_isTarget_71
      ·
        subst c3
        refine lv_iconst (v := 1) S.x S.b d_Exp_isTarget_66 (by decide) ?_
        refine lv_goto (tgt := 71) S.x S.b d_Exp_isTarget_67 (by decide) ?_
        exact px_iret (v := 1) S hr rfl hlk hAe hw (Nat.le_of_ble_eq_true rfl) (Nat.le_of_ble_eq_true rfl) (⟨tf_51, rfl, (show CurOk (tf_51 10) (tf_51 13) (tf_51 14) (tf_51 15) (tf_51 17) (ta 0) from ⟨⟨by first | exact o1 | omega, by first | exact o2 | omega⟩, ⟨by first | exact o3 | omega, by first | exact o4 | omega⟩, ⟨by first | exact o5 | omega, by first | exact o6 | omega⟩, by first | exact o7 | omega, by omega, last_eq hlast (rfl)⟩), (show (1 : Int32) = 0 ∨ (1 : Int32) = 1 from by first | exact Or.inl rfl | exact Or.inr rfl | exact z_or (by omega)), (show (tf_51 10).toInt = (tf 10).toInt from by first | exact k51_0 | omega), (show (tf_51 13).toInt = (tf 13).toInt from by first | exact k51_1 | omega), (show (tf_51 14).toInt = (tf 14).toInt from by first | exact k51_2 | omega), (show (tf_51 15).toInt = (tf 15).toInt from by first | exact k51_3 | omega), (show Nn (1 : Int32) (some q4) from (by first | exact fun h => ⟨_, rfl⟩ | exact fun h => absurd h (by omega) | exact fun h => absurd h (by decide))), (show R_ex_isTarget (some q4) fx tf tf_51 (1 : Int32) from (k51_4 _ _ 1 (Or.inr (Or.inl ⟨rfl, rfl, rfl, rfl, rfl, rfl, Or.inr ⟨nc1, Or.inr ⟨q4, rfl, rfl, rfl⟩⟩⟩))))⟩) d_Exp_isTarget_71
  refine lv_aload_n S.x S.b d_Exp_isTarget_0 rfl (lv_at hl 1 rfl) ?_
  refine px_get S k_Opd hT hw 2 0 1 (v := .int (fx 1)) rfl rfl rfl (by decide) m4_221 d_Exp_isTarget_1 ?_
  refine lv_iconst (v := 2) S.x S.b d_Exp_isTarget_4 (by decide) ?_
  refine lv_icmp_ne (tgt := 23) S.x S.b d_Exp_isTarget_5 (by decide) (fun c6 => ?_) (fun c6 => ?_)
  · have nc6 : ¬ (fx 1).toInt = (2 : Int) := mt (i_eq (x := (fx 1)) (y := 2)).mpr c6
    refine lv_aload_n S.x S.b d_Exp_isTarget_23 rfl (lv_at hl 1 rfl) ?_
    refine px_get S k_Opd hT hw 2 0 1 (v := .int (fx 1)) rfl rfl rfl (by decide) m4_221 d_Exp_isTarget_24 ?_
    refine lv_if_eq (tgt := 38) S.x S.b d_Exp_isTarget_27 (by decide) (fun c8 => ?_) (fun c8 => ?_)
    · have nc8 : (fx 1).toInt = (0 : Int) := (i_eq (x := (fx 1)) (y := 0)).mp c8
      refine lv_aload_n S.x S.b d_Exp_isTarget_38 rfl (lv_at hl 0 rfl) ?_
      refine px_get S k_Exp hT hw 0 0 0 (v := .ref (re 0)) rfl rfl rfl (by decide) m2_131 d_Exp_isTarget_39 ?_
      refine lv_bipush (v := 6) S.x S.b d_Exp_isTarget_42 (by decide) ?_
      refine lv_aload_n S.x S.b d_Exp_isTarget_44 rfl (lv_at hl 1 rfl) ?_
      refine px_get S k_Opd hT hw 2 0 0 (v := .int (fx 0)) rfl rfl rfl (by decide) m4_218 d_Exp_isTarget_45 ?_
      have hw : pw D A s.heap _ _ [wd_Exp cs he re eo ef ea eg, wd_Opd cs hx (fun _ => 0) (fun k => if k = 4 then ox else none) fx (fun _ _ => 0) (fun _ _ => none), wd_Tok cs (re 0) rt ot tf ta tg] := hw.sub [0, 2, 1] rfl rfl
      refine px_callv (pr := [wd_Exp cs he re eo ef ea eg, wd_Opd cs hx (fun _ => 0) (fun k => if k = 4 then ox else none) fx (fun _ _ => 0) (fun _ _ => none)]) (px_runV (As := [.int 6, .int (fx 0)]) (rest := []) S (c_tk_blame l D cs (re 0) rt ot ta tg tf 6 (fx 0)  (show CurOk (tf 10) (tf 13) (tf 14) (tf 15) (tf 17) (ta 0) from ⟨⟨by first | exact o1 | omega, by first | exact o2 | omega⟩, ⟨by first | exact o3 | omega, by first | exact o4 | omega⟩, ⟨by first | exact o5 | omega, by first | exact o6 | omega⟩, by first | exact o7 | omega, by omega, last_eq hlast (rfl)⟩) (show 0 ≤ (fx 0).toInt from by first | exact g0 | omega) _) hT (pr := [wd_Exp cs he re eo ef ea eg, wd_Opd cs hx (fun _ => 0) (fun k => if k = 4 then ox else none) fx (fun _ _ => 0) (fun _ _ => none)]) (pcs := [wd_Tok cs (re 0) rt ot tf ta tg]) hw px_X.tt (px_recv hT hw 2 0 rfl rfl rfl) m4_173 m4_170 m4_171 m4_172 m1_2 q_Tok_blame ⟨Nat.le_of_ble_eq_true rfl, Nat.le_of_ble_eq_true rfl⟩ hl.1 rfl (Nat.le_of_ble_eq_true rfl) d_Exp_isTarget_48 ⟨Nat.le_of_ble_eq_true rfl, Nat.le_of_ble_eq_true rfl⟩) hw hA (fun p11 H locs hp11 hw => ?_)
      obtain ⟨tf10, rfl, h18, e13, e14, e15, e16, e17⟩ := hp11
      obtain ⟨⟨o1, o2⟩, ⟨o3, o4⟩, ⟨o5, o6⟩, o7, o8, hlast⟩ := h18
      have e13 : (tf10 10).toInt = (tf 10).toInt := e13
      have e14 : (tf10 14).toInt = (tf 14).toInt := e14
      have e15 : (tf10 15).toInt = (tf 15).toInt := e15
      have e16 : (tf10 13).toInt = (tf 13).toInt := e16
      have e17 : R_tk_blame (6 : Int32) (fx 0) tf tf10 := e17
      have hw : pw D A s.heap H locs [wd_Exp cs he re eo ef ea eg, wd_Opd cs hx (fun _ => 0) (fun k => if k = 4 then ox else none) fx (fun _ _ => 0) (fun _ _ => none), wd_Tok cs (re 0) rt ot tf10 ta tg] := hw
      have hw : pw D A s.heap _ _ [wd_Exp cs he re eo ef ea eg, wd_Tok cs (re 0) rt ot tf10 ta tg, wd_Opd cs hx (fun _ => 0) (fun k => if k = 4 then ox else none) fx (fun _ _ => 0) (fun _ _ => none)] := hw.sub [0, 2, 1] rfl rfl
      exact J51 tf10 _ _ ls (show CurOk (tf10 10) (tf10 13) (tf10 14) (tf10 15) (tf10 17) (ta 0) from ⟨⟨by first | exact o1 | omega, by first | exact o2 | omega⟩, ⟨by first | exact o3 | omega, by first | exact o4 | omega⟩, ⟨by first | exact o5 | omega, by first | exact o6 | omega⟩, by first | exact o7 | omega, by omega, last_eq hlast (rfl)⟩) (show (tf10 10).toInt = (tf 10).toInt from by first | exact e13 | omega) (show (tf10 13).toInt = (tf 13).toInt from by first | exact e16 | omega) (show (tf10 14).toInt = (tf 14).toInt from by first | exact e14 | omega) (show (tf10 15).toInt = (tf 15).toInt from by first | exact e15 | omega) (show K_ex_isTarget_51 ox fx tf tf10 from (fun y_f0 y_v k hE => Exists.intro (k + 1) (Or.inl ⟨rfl, Or.inl ⟨nc6, Or.inl ⟨nc8, tf10, e17, hE⟩⟩⟩))) hw (lv_sub hl [0, 1] rfl)
    · have nc8 : ¬ (fx 1).toInt = (0 : Int) := mt (i_eq (x := (fx 1)) (y := 0)).mpr c8
      refine lv_aload_n S.x S.b d_Exp_isTarget_30 rfl (lv_at hl 1 rfl) ?_
      refine px_get S k_Opd hT hw 2 0 1 (v := .int (fx 1)) rfl rfl rfl (by decide) m4_221 d_Exp_isTarget_31 ?_
      refine lv_iconst (v := 3) S.x S.b d_Exp_isTarget_34 (by decide) ?_
      refine lv_icmp_ne (tgt := 51) S.x S.b d_Exp_isTarget_35 (by decide) (fun c19 => ?_) (fun c19 => ?_)
      · have nc19 : ¬ (fx 1).toInt = (3 : Int) := mt (i_eq (x := (fx 1)) (y := 3)).mpr c19
        exact J51 tf _ _ ls (show CurOk (tf 10) (tf 13) (tf 14) (tf 15) (tf 17) (ta 0) from ⟨⟨by first | exact o1 | omega, by first | exact o2 | omega⟩, ⟨by first | exact o3 | omega, by first | exact o4 | omega⟩, ⟨by first | exact o5 | omega, by first | exact o6 | omega⟩, by first | exact o7 | omega, by omega, last_eq hlast (rfl)⟩) (show (tf 10).toInt = (tf 10).toInt from rfl) (show (tf 13).toInt = (tf 13).toInt from rfl) (show (tf 14).toInt = (tf 14).toInt from rfl) (show (tf 15).toInt = (tf 15).toInt from rfl) (show K_ex_isTarget_51 ox fx tf tf from (fun y_f0 y_v k hE => Exists.intro (k + 1) (Or.inl ⟨rfl, Or.inl ⟨nc6, Or.inr ⟨nc8, Or.inl ⟨nc19, hE⟩⟩⟩⟩))) hw (lv_sub hl [0, 1] rfl)
      · have nc19 : (fx 1).toInt = (3 : Int) := (i_eq (x := (fx 1)) (y := 3)).mp c19
        refine lv_aload_n S.x S.b d_Exp_isTarget_38 rfl (lv_at hl 0 rfl) ?_
        refine px_get S k_Exp hT hw 0 0 0 (v := .ref (re 0)) rfl rfl rfl (by decide) m2_131 d_Exp_isTarget_39 ?_
        refine lv_bipush (v := 6) S.x S.b d_Exp_isTarget_42 (by decide) ?_
        refine lv_aload_n S.x S.b d_Exp_isTarget_44 rfl (lv_at hl 1 rfl) ?_
        refine px_get S k_Opd hT hw 2 0 0 (v := .int (fx 0)) rfl rfl rfl (by decide) m4_218 d_Exp_isTarget_45 ?_
        have hw : pw D A s.heap _ _ [wd_Exp cs he re eo ef ea eg, wd_Opd cs hx (fun _ => 0) (fun k => if k = 4 then ox else none) fx (fun _ _ => 0) (fun _ _ => none), wd_Tok cs (re 0) rt ot tf ta tg] := hw.sub [0, 2, 1] rfl rfl
        refine px_callv (pr := [wd_Exp cs he re eo ef ea eg, wd_Opd cs hx (fun _ => 0) (fun k => if k = 4 then ox else none) fx (fun _ _ => 0) (fun _ _ => none)]) (px_runV (As := [.int 6, .int (fx 0)]) (rest := []) S (c_tk_blame l D cs (re 0) rt ot ta tg tf 6 (fx 0)  (show CurOk (tf 10) (tf 13) (tf 14) (tf 15) (tf 17) (ta 0) from ⟨⟨by first | exact o1 | omega, by first | exact o2 | omega⟩, ⟨by first | exact o3 | omega, by first | exact o4 | omega⟩, ⟨by first | exact o5 | omega, by first | exact o6 | omega⟩, by first | exact o7 | omega, by omega, last_eq hlast (rfl)⟩) (show 0 ≤ (fx 0).toInt from by first | exact g0 | omega) _) hT (pr := [wd_Exp cs he re eo ef ea eg, wd_Opd cs hx (fun _ => 0) (fun k => if k = 4 then ox else none) fx (fun _ _ => 0) (fun _ _ => none)]) (pcs := [wd_Tok cs (re 0) rt ot tf ta tg]) hw px_X.tt (px_recv hT hw 2 0 rfl rfl rfl) m4_173 m4_170 m4_171 m4_172 m1_2 q_Tok_blame ⟨Nat.le_of_ble_eq_true rfl, Nat.le_of_ble_eq_true rfl⟩ hl.1 rfl (Nat.le_of_ble_eq_true rfl) d_Exp_isTarget_48 ⟨Nat.le_of_ble_eq_true rfl, Nat.le_of_ble_eq_true rfl⟩) hw hA (fun p22 H locs hp22 hw => ?_)
        obtain ⟨tf21, rfl, h29, e24, e25, e26, e27, e28⟩ := hp22
        obtain ⟨⟨o1, o2⟩, ⟨o3, o4⟩, ⟨o5, o6⟩, o7, o8, hlast⟩ := h29
        have e24 : (tf21 10).toInt = (tf 10).toInt := e24
        have e25 : (tf21 14).toInt = (tf 14).toInt := e25
        have e26 : (tf21 15).toInt = (tf 15).toInt := e26
        have e27 : (tf21 13).toInt = (tf 13).toInt := e27
        have e28 : R_tk_blame (6 : Int32) (fx 0) tf tf21 := e28
        have hw : pw D A s.heap H locs [wd_Exp cs he re eo ef ea eg, wd_Opd cs hx (fun _ => 0) (fun k => if k = 4 then ox else none) fx (fun _ _ => 0) (fun _ _ => none), wd_Tok cs (re 0) rt ot tf21 ta tg] := hw
        have hw : pw D A s.heap _ _ [wd_Exp cs he re eo ef ea eg, wd_Tok cs (re 0) rt ot tf21 ta tg, wd_Opd cs hx (fun _ => 0) (fun k => if k = 4 then ox else none) fx (fun _ _ => 0) (fun _ _ => none)] := hw.sub [0, 2, 1] rfl rfl
        exact J51 tf21 _ _ ls (show CurOk (tf21 10) (tf21 13) (tf21 14) (tf21 15) (tf21 17) (ta 0) from ⟨⟨by first | exact o1 | omega, by first | exact o2 | omega⟩, ⟨by first | exact o3 | omega, by first | exact o4 | omega⟩, ⟨by first | exact o5 | omega, by first | exact o6 | omega⟩, by first | exact o7 | omega, by omega, last_eq hlast (rfl)⟩) (show (tf21 10).toInt = (tf 10).toInt from by first | exact e24 | omega) (show (tf21 13).toInt = (tf 13).toInt from by first | exact e27 | omega) (show (tf21 14).toInt = (tf 14).toInt from by first | exact e25 | omega) (show (tf21 15).toInt = (tf 15).toInt from by first | exact e26 | omega) (show K_ex_isTarget_51 ox fx tf tf21 from (fun y_f0 y_v k hE => Exists.intro (k + 1) (Or.inl ⟨rfl, Or.inl ⟨nc6, Or.inr ⟨nc8, Or.inr ⟨nc19, tf21, e28, hE⟩⟩⟩⟩))) hw (lv_sub hl [0, 1] rfl)
  · have nc6 : (fx 1).toInt = (2 : Int) := (i_eq (x := (fx 1)) (y := 2)).mp c6
    refine lv_aload_n S.x S.b d_Exp_isTarget_8 rfl (lv_at hl 0 rfl) ?_
    refine px_get S k_Exp hT hw 0 0 0 (v := .ref (re 0)) rfl rfl rfl (by decide) m2_131 d_Exp_isTarget_9 ?_
    refine lv_iconst (v := 3) S.x S.b d_Exp_isTarget_12 (by decide) ?_
    refine lv_aload_n S.x S.b d_Exp_isTarget_13 rfl (lv_at hl 1 rfl) ?_
    refine px_get S k_Opd hT hw 2 0 0 (v := .int (fx 0)) rfl rfl rfl (by decide) m4_218 d_Exp_isTarget_14 ?_
    have hw : pw D A s.heap _ _ [wd_Exp cs he re eo ef ea eg, wd_Opd cs hx (fun _ => 0) (fun k => if k = 4 then ox else none) fx (fun _ _ => 0) (fun _ _ => none), wd_Tok cs (re 0) rt ot tf ta tg] := hw.sub [0, 2, 1] rfl rfl
    refine px_callv (pr := [wd_Exp cs he re eo ef ea eg, wd_Opd cs hx (fun _ => 0) (fun k => if k = 4 then ox else none) fx (fun _ _ => 0) (fun _ _ => none)]) (px_runV (As := [.int 3, .int (fx 0)]) (rest := []) S (c_tk_blame l D cs (re 0) rt ot ta tg tf 3 (fx 0)  (show CurOk (tf 10) (tf 13) (tf 14) (tf 15) (tf 17) (ta 0) from ⟨⟨by first | exact o1 | omega, by first | exact o2 | omega⟩, ⟨by first | exact o3 | omega, by first | exact o4 | omega⟩, ⟨by first | exact o5 | omega, by first | exact o6 | omega⟩, by first | exact o7 | omega, by omega, last_eq hlast (rfl)⟩) (show 0 ≤ (fx 0).toInt from by first | exact g0 | omega) _) hT (pr := [wd_Exp cs he re eo ef ea eg, wd_Opd cs hx (fun _ => 0) (fun k => if k = 4 then ox else none) fx (fun _ _ => 0) (fun _ _ => none)]) (pcs := [wd_Tok cs (re 0) rt ot tf ta tg]) hw px_X.tt (px_recv hT hw 2 0 rfl rfl rfl) m4_173 m4_170 m4_171 m4_172 m1_2 q_Tok_blame ⟨Nat.le_of_ble_eq_true rfl, Nat.le_of_ble_eq_true rfl⟩ hl.1 rfl (Nat.le_of_ble_eq_true rfl) d_Exp_isTarget_17 ⟨Nat.le_of_ble_eq_true rfl, Nat.le_of_ble_eq_true rfl⟩) hw hA (fun p31 H locs hp31 hw => ?_)
    obtain ⟨tf30, rfl, h38, e33, e34, e35, e36, e37⟩ := hp31
    obtain ⟨⟨o1, o2⟩, ⟨o3, o4⟩, ⟨o5, o6⟩, o7, o8, hlast⟩ := h38
    have e33 : (tf30 10).toInt = (tf 10).toInt := e33
    have e34 : (tf30 14).toInt = (tf 14).toInt := e34
    have e35 : (tf30 15).toInt = (tf 15).toInt := e35
    have e36 : (tf30 13).toInt = (tf 13).toInt := e36
    have e37 : R_tk_blame (3 : Int32) (fx 0) tf tf30 := e37
    have hw : pw D A s.heap H locs [wd_Exp cs he re eo ef ea eg, wd_Opd cs hx (fun _ => 0) (fun k => if k = 4 then ox else none) fx (fun _ _ => 0) (fun _ _ => none), wd_Tok cs (re 0) rt ot tf30 ta tg] := hw
    refine lv_goto (tgt := 51) S.x S.b d_Exp_isTarget_20 (by decide) ?_
    have hw : pw D A s.heap _ _ [wd_Exp cs he re eo ef ea eg, wd_Tok cs (re 0) rt ot tf30 ta tg, wd_Opd cs hx (fun _ => 0) (fun k => if k = 4 then ox else none) fx (fun _ _ => 0) (fun _ _ => none)] := hw.sub [0, 2, 1] rfl rfl
    exact J51 tf30 _ _ ls (show CurOk (tf30 10) (tf30 13) (tf30 14) (tf30 15) (tf30 17) (ta 0) from ⟨⟨by first | exact o1 | omega, by first | exact o2 | omega⟩, ⟨by first | exact o3 | omega, by first | exact o4 | omega⟩, ⟨by first | exact o5 | omega, by first | exact o6 | omega⟩, by first | exact o7 | omega, by omega, last_eq hlast (rfl)⟩) (show (tf30 10).toInt = (tf 10).toInt from by first | exact e33 | omega) (show (tf30 13).toInt = (tf 13).toInt from by first | exact e36 | omega) (show (tf30 14).toInt = (tf 14).toInt from by first | exact e34 | omega) (show (tf30 15).toInt = (tf 15).toInt from by first | exact e35 | omega) (show K_ex_isTarget_51 ox fx tf tf30 from (fun y_f0 y_v k hE => Exists.intro (k + 1) (Or.inl ⟨rfl, Or.inr ⟨nc6, tf30, e37, hE⟩⟩))) hw (lv_sub hl [0, 1] rfl)
abbrev b_Exp_increase : ByteArray := prog_3_method_18_code
def y_Exp_increase : MethodName := ⟨"HomeSystem$Expressions", "increase", "(LHomeSystem$Operand;IZ)V"⟩
theorem d_Exp_increase_0 : decode b_Exp_increase 0 = .ok (.iload_n 3, 1) := by decide +kernel
theorem d_Exp_increase_1 : decode b_Exp_increase 1 = .ok (.ifCond .eq 45, 3) := by decide +kernel
theorem d_Exp_increase_4 : decode b_Exp_increase 4 = .ok (.aload_n 1, 1) := by decide +kernel
theorem d_Exp_increase_5 : decode b_Exp_increase 5 = .ok (.getfield 91, 3) := by decide +kernel
theorem d_Exp_increase_8 : decode b_Exp_increase 8 = .ok (.ifnull 38, 3) := by decide +kernel
theorem d_Exp_increase_11 : decode b_Exp_increase 11 = .ok (.aload_n 0, 1) := by decide +kernel
theorem d_Exp_increase_12 : decode b_Exp_increase 12 = .ok (.getfield 19, 3) := by decide +kernel
theorem d_Exp_increase_15 : decode b_Exp_increase 15 = .ok (.iconst 5, 1) := by decide +kernel
theorem d_Exp_increase_16 : decode b_Exp_increase 16 = .ok (.iload_n 2, 1) := by decide +kernel
theorem d_Exp_increase_17 : decode b_Exp_increase 17 = .ok (.bipush 8, 2) := by decide +kernel
theorem d_Exp_increase_19 : decode b_Exp_increase 19 = .ok (.ishl, 1) := by decide +kernel
theorem d_Exp_increase_20 : decode b_Exp_increase 20 = .ok (.ior, 1) := by decide +kernel
theorem d_Exp_increase_21 : decode b_Exp_increase 21 = .ok (.aload_n 1, 1) := by decide +kernel
theorem d_Exp_increase_22 : decode b_Exp_increase 22 = .ok (.getfield 91, 3) := by decide +kernel
theorem d_Exp_increase_25 : decode b_Exp_increase 25 = .ok (.getfield 95, 3) := by decide +kernel
theorem d_Exp_increase_28 : decode b_Exp_increase 28 = .ok (.aload_n 1, 1) := by decide +kernel
theorem d_Exp_increase_29 : decode b_Exp_increase 29 = .ok (.getfield 91, 3) := by decide +kernel
theorem d_Exp_increase_32 : decode b_Exp_increase 32 = .ok (.getfield 100, 3) := by decide +kernel
theorem d_Exp_increase_35 : decode b_Exp_increase 35 = .ok (.aload_n 1, 1) := by decide +kernel
theorem d_Exp_increase_36 : decode b_Exp_increase 36 = .ok (.getfield 91, 3) := by decide +kernel
theorem d_Exp_increase_39 : decode b_Exp_increase 39 = .ok (.getfield 103, 3) := by decide +kernel
theorem d_Exp_increase_42 : decode b_Exp_increase 42 = .ok (.invokevirtual 106, 3) := by decide +kernel
theorem d_Exp_increase_45 : decode b_Exp_increase 45 = .ok (.pop, 1) := by decide +kernel
theorem d_Exp_increase_46 : decode b_Exp_increase 46 = .ok (.aload_n 1, 1) := by decide +kernel
theorem d_Exp_increase_47 : decode b_Exp_increase 47 = .ok (.iconst 3, 1) := by decide +kernel
theorem d_Exp_increase_48 : decode b_Exp_increase 48 = .ok (.invokevirtual 147, 3) := by decide +kernel
theorem d_Exp_increase_51 : decode b_Exp_increase 51 = .ok (.return_, 1) := by decide +kernel
theorem q_Exp_increase : px_y y_Exp_increase 3 := by unfold px_y; decide +kernel
set_option maxHeartbeats 4000000 in
set_option maxRecDepth 100000 in
theorem c_ex_increase (l : Launch) (D : va_G) (cs : Nat → ClassId) (he : Nat) (re : Nat → Nat) (eo : Nat → Option Nat) (ef : Nat → Int32) (ea : Nat → Nat → Int32) (eg : Nat → Nat → Option Nat) (rp : Nat → Nat) (of : Option Nat) (cn : Nat) (fp : Nat → Int32) (cd : Nat → Int32) (P : va_W) (hx : Nat) (ox : Option Nat) (fx : Nat → Int32) (p0 p1 : Int32)  (g0 : cn % 4 = 0) (g1 : cn ≤ 100000) (g2 : 1 ≤ (fx 5).toInt) (g3 : (fx 5).toInt ≤ 1000000) (hpk : Pok cn (fp 3) cd) (hsx : Sy P ox) : MetV l y_Exp_increase b_Exp_increase 4 D cs 1 40 (0) (0) [.ref he, .ref hx, .int p0, .int p1] [wd_Exp cs he re eo ef ea eg, wd_Prg cs (re 2) rp (fun k => if k = 2 then of else none) fp (fun _ _ => 0) (fun _ _ => none), [((rp 1), .inl (cs 0, cn, .inl cd))], P, wd_Opd cs hx (fun _ => 0) (fun k => if k = 4 then ox else none) fx (fun _ _ => 0) (fun _ _ => none)] (fun _ => True) (fun ps => ∃ (fp' : Nat → Int32) (cd' : Nat → Int32) (fx' : Nat → Int32), (ps = [wd_Exp cs he re eo ef ea eg, wd_Prg cs (re 2) rp (fun k => if k = 2 then of else none) fp' (fun _ _ => 0) (fun _ _ => none), [((rp 1), .inl (cs 0, cn, .inl cd'))], P, wd_Opd cs hx (fun _ => 0) (fun k => if k = 4 then ox else none) fx' (fun _ _ => 0) (fun _ _ => none)]) ∧ ((fx' 0).toInt = (fx 0).toInt) ∧ ((fx' 3).toInt = (fx 3).toInt) ∧ ((fx' 5).toInt = (fx 5).toInt + 1) ∧ (Prel cn (fp 3) cd (fp' 3) cd') ∧ ((fp' 3).toInt ≤ (fp 3).toInt + 4) ∧ (R_ex_increase cn P ox p0 p1 fp cd fx fp' cd' fx')) := by
  refine px_enter (by decide) (Nat.le_of_ble_eq_true rfl) ?_
  intro p e s m below meth c A ls hAe S hr hlk hnm hA hT hX hw hl
  have hl : lv_has ls 4 [(0, .ref he), (1, .ref hx), (2, .int p0), (3, .int p1)] := hl
  have lp0 := Int32.le_toInt p0
  have up0 := Int32.toInt_lt p0
  have lp1 := Int32.le_toInt p1
  have up1 := Int32.toInt_lt p1
  have cst3 : (3 : Int32).toInt = 3 := rfl
  have cst5 : (5 : Int32).toInt = 5 := rfl
  have cst8 : (8 : Int32).toInt = 8 := rfl
  have hrel := Prel.rf hpk
  have pz0 := hrel.nm
  have J46 : ∀ (fp_46 : Nat → Int32) (cd_46 : Nat → Int32) (fx_46 : Nat → Int32) (H : Heap) (locs : List Loc) (ls : Array Slot), ((fx_46 0).toInt = (fx 0).toInt) → ((fx_46 3).toInt = (fx 3).toInt) → ((fx_46 5).toInt = (fx 5).toInt) → (Prel cn (fp 3) cd (fp_46 3) cd_46) → ((fp_46 3).toInt ≤ (fp 3).toInt + 4) → (K_ex_increase_46 cn P ox p0 p1 fp cd fx fp_46 cd_46 fx_46) → pw D A s.heap H locs [wd_Exp cs he re eo ef ea eg, wd_Prg cs (re 2) rp (fun k => if k = 2 then of else none) fp_46 (fun _ _ => 0) (fun _ _ => none), [((rp 1), .inl (cs 0, cn, .inl cd_46))], P, wd_Opd cs hx (fun _ => 0) (fun k => if k = 4 then ox else none) fx_46 (fun _ _ => 0) (fun _ _ => none)] → lv_has ls 4 [(0, .ref he), (1, .ref hx), (2, .int p0), (3, .int p1)] → W p l e { frames := 1, cells := 0, slots := 0, locals := 40 } s m [.ref he, .ref hx, .int p0, .int p1].toArray below meth c H locs 0 0 (MQ below (va_Qv (fun ps => ∃ (fp' : Nat → Int32) (cd' : Nat → Int32) (fx' : Nat → Int32), (ps = [wd_Exp cs he re eo ef ea eg, wd_Prg cs (re 2) rp (fun k => if k = 2 then of else none) fp' (fun _ _ => 0) (fun _ _ => none), [((rp 1), .inl (cs 0, cn, .inl cd'))], P, wd_Opd cs hx (fun _ => 0) (fun k => if k = 4 then ox else none) fx' (fun _ _ => 0) (fun _ _ => none)]) ∧ ((fx' 0).toInt = (fx 0).toInt) ∧ ((fx' 3).toInt = (fx 3).toInt) ∧ ((fx' 5).toInt = (fx 5).toInt + 1) ∧ (Prel cn (fp 3) cd (fp' 3) cd') ∧ ((fp' 3).toInt ≤ (fp 3).toInt + 4) ∧ (R_ex_increase cn P ox p0 p1 fp cd fx fp' cd' fx')) (pc_B D (va_A ([wd_Exp cs he re eo ef ea eg, wd_Prg cs (re 2) rp (fun k => if k = 2 then of else none) fp (fun _ _ => 0) (fun _ _ => none), [((rp 1), .inl (cs 0, cn, .inl cd))], P, wd_Opd cs hx (fun _ => 0) (fun k => if k = 4 then ox else none) fx (fun _ _ => 0) (fun _ _ => none)] : List va_W).flatten s.heap.size)) (va_A ([wd_Exp cs he re eo ef ea eg, wd_Prg cs (re 2) rp (fun k => if k = 2 then of else none) fp (fun _ _ => 0) (fun _ _ => none), [((rp 1), .inl (cs 0, cn, .inl cd))], P, wd_Opd cs hx (fun _ => 0) (fun k => if k = 4 then ox else none) fx (fun _ _ => 0) (fun _ _ => none)] : List va_W).flatten s.heap.size)) [.ref he, .ref hx, .int p0, .int p1].toArray s 0 0 A) (F0 m 46 ls []) := by
    intro fp_46 cd_46 fx_46 H locs ls k46_0 k46_1 k46_2 k46_3 k46_4 k46_5 hw hl
    have hrel := k46_3
    have pz46 := hrel.nm
    refine lv_aload_n S.x S.b d_Exp_increase_46 rfl (lv_at hl 1 rfl) ?_
    refine lv_iconst (v := 3) S.x S.b d_Exp_increase_47 (by decide) ?_
    refine px_callv (pr := [wd_Exp cs he re eo ef ea eg, wd_Prg cs (re 2) rp (fun k => if k = 2 then of else none) fp_46 (fun _ _ => 0) (fun _ _ => none), [((rp 1), .inl (cs 0, cn, .inl cd_46))], P]) (px_runV (As := [.int 3]) (rest := []) S (c_Opd_become l D cs hx ox fx_46 3  (show 1 ≤ (fx_46 5).toInt from by first | exact oz_a97abccd3f k46_2 g2 | omega) (show (fx_46 5).toInt ≤ 1000000 from by first | exact oz_82177ca36c k46_2 g3 | omega) _) hT (pr := [wd_Exp cs he re eo ef ea eg, wd_Prg cs (re 2) rp (fun k => if k = 2 then of else none) fp_46 (fun _ _ => 0) (fun _ _ => none), [((rp 1), .inl (cs 0, cn, .inl cd_46))], P]) (pcs := [wd_Opd cs hx (fun _ => 0) (fun k => if k = 4 then ox else none) fx_46 (fun _ _ => 0) (fun _ _ => none)]) hw px_X.tt (px_recv hT hw 4 0 rfl rfl rfl) m4_185 m4_182 m4_183 m4_184 m1_31 q_Opd_become ⟨Nat.le_of_ble_eq_true rfl, Nat.le_of_ble_eq_true rfl⟩ hl.1 rfl (Nat.le_of_ble_eq_true rfl) d_Exp_increase_48 ⟨Nat.le_of_ble_eq_true rfl, Nat.le_of_ble_eq_true rfl⟩) hw hA (fun p2 H locs hp2 hw => ?_)
    obtain ⟨fx1, rfl, e4, e5, e6, e7, e8, e9, e10, e11, e12⟩ := hp2
    have e4 : (fx1 0).toInt = (fx_46 0).toInt := e4
    have e5 : (fx1 1).toInt = 0 := e5
    have e6 : (fx1 2).toInt = (3 : Int) := e6
    have e7 : (fx1 3).toInt = (fx_46 3).toInt := e7
    have e8 : (fx1 5).toInt = (fx_46 5).toInt + 1 := e8
    have e9 : (fx1 6).toInt = (fx_46 6).toInt := e9
    have e10 : (fx1 7).toInt = 0 := e10
    have e11 : (fx1 8).toInt = (fx_46 8).toInt := e11
    have e12 : R_Opd_become (3 : Int32) fx_46 fx1 := e12
    have hw : pw D A s.heap H locs [wd_Exp cs he re eo ef ea eg, wd_Prg cs (re 2) rp (fun k => if k = 2 then of else none) fp_46 (fun _ _ => 0) (fun _ _ => none), [((rp 1), .inl (cs 0, cn, .inl cd_46))], P, wd_Opd cs hx (fun _ => 0) (fun k => if k = 4 then ox else none) fx1 (fun _ _ => 0) (fun _ _ => none)] := hw
    exact px_vret S hr hlk hAe hw (Nat.le_of_ble_eq_true rfl) (Nat.le_of_ble_eq_true rfl) (⟨fp_46, cd_46, fx1, rfl, (show (fx1 0).toInt = (fx 0).toInt from by first | exact oz_1687f4cc65 k46_0 e4 | omega), (show (fx1 3).toInt = (fx 3).toInt from by first | exact oz_1687f4cc65 k46_1 e7 | omega), (show (fx1 5).toInt = (fx 5).toInt + 1 from by first | exact oz_cbf156e4b5 k46_2 e8 | omega), (show Prel cn (fp 3) cd (fp_46 3) cd_46 from hrel), (show (fp_46 3).toInt ≤ (fp 3).toInt + 4 from by first | exact k46_4 | omega), (show R_ex_increase cn P ox p0 p1 fp cd fx fp_46 cd_46 fx1 from (k46_5 _ _ _ 1 (Or.inr (Or.inl ⟨rfl, rfl, rfl, rfl, rfl, rfl, fx1, e12, rfl, rfl, rfl⟩))))⟩) d_Exp_increase_51
  refine lv_iload_n S.x S.b d_Exp_increase_0 rfl (lv_at hl 3 rfl) ?_
  refine lv_if_eq (tgt := 46) S.x S.b d_Exp_increase_1 (by decide) (fun c13 => ?_) (fun c13 => ?_)
  · have nc13 : p1.toInt = (0 : Int) := (i_eq (x := p1) (y := 0)).mp c13
    exact J46 fp cd fx _ _ ls (show (fx 0).toInt = (fx 0).toInt from rfl) (show (fx 3).toInt = (fx 3).toInt from rfl) (show (fx 5).toInt = (fx 5).toInt from rfl) (show Prel cn (fp 3) cd (fp 3) cd from hrel) (show (fp 3).toInt ≤ (fp 3).toInt + 4 from by first | exact oz_4550f3b49c | omega) (show K_ex_increase_46 cn P ox p0 p1 fp cd fx fp cd fx from (fun y_f0 y_f1 y_f2 k hE => Exists.intro (k + 1) (Or.inl ⟨rfl, Or.inl ⟨nc13, hE⟩⟩))) hw (lv_sub hl [0, 1, 2, 3] rfl)
  · have nc13 : ¬ p1.toInt = (0 : Int) := mt (i_eq (x := p1) (y := 0)).mpr c13
    refine lv_aload_n S.x S.b d_Exp_increase_4 rfl (lv_at hl 1 rfl) ?_
    refine px_get S k_Opd hT hw 4 0 4 (v := va_rf ox) rfl rfl rfl (by decide) m4_226 d_Exp_increase_5 ?_
    refine lq_ifnull (x := ox) (tgt := 46) S.x S.b d_Exp_increase_8 (by decide) (fun c15 => ?_) (fun q16 c15 => ?_)
    ·
      subst c15
      exact J46 fp cd fx _ _ ls (show (fx 0).toInt = (fx 0).toInt from rfl) (show (fx 3).toInt = (fx 3).toInt from rfl) (show (fx 5).toInt = (fx 5).toInt from rfl) (show Prel cn (fp 3) cd (fp 3) cd from hrel) (show (fp 3).toInt ≤ (fp 3).toInt + 4 from by first | exact oz_4550f3b49c | omega) (show K_ex_increase_46 cn P none p0 p1 fp cd fx fp cd fx from (fun y_f0 y_f1 y_f2 k hE => Exists.intro (k + 1) (Or.inl ⟨rfl, Or.inr ⟨nc13, Or.inl ⟨rfl, hE⟩⟩⟩))) hw (lv_sub hl [0, 1, 2, 3] rfl)
    ·
      subst c15
      refine lv_aload_n S.x S.b d_Exp_increase_11 rfl (lv_at hl 0 rfl) ?_
      refine px_get S k_Exp hT hw 0 0 2 (v := .ref (re 2)) rfl rfl rfl (by decide) m2_133 d_Exp_increase_12 ?_
      refine lv_iconst (v := 5) S.x S.b d_Exp_increase_15 (by decide) ?_
      refine lv_iload_n S.x S.b d_Exp_increase_16 rfl (lv_at hl 2 rfl) ?_
      refine lv_bipush (v := 8) S.x S.b d_Exp_increase_17 (by decide) ?_
      refine lv_ishl S.x S.b d_Exp_increase_19 ?_
      refine lv_topi (fun z18 ez18 => ?_)
      have lz18 := Int32.le_toInt z18
      have uz18 := Int32.toInt_lt z18
      have tz18 : 0 ≤ p0.toInt → p0.toInt * 256 < 2147483648 → z18.toInt = p0.toInt * 256 := by rw [ez18]; exact i_shl p0 8 (k := 8) (d := 256) (by decide) (by decide)
      refine lv_ior S.x S.b d_Exp_increase_20 ?_
      refine lv_topi (fun z19 ez19 => ?_)
      have lz19 := Int32.le_toInt z19
      have uz19 := Int32.toInt_lt z19
      have hjp : ∀ q, Jop z19 q := fun q => jop_low (by rw [ez19, ez18, or_shl8 5 _ (by decide)]; decide)
      refine lv_aload_n S.x S.b d_Exp_increase_21 rfl (lv_at hl 1 rfl) ?_
      refine px_get S k_Opd hT hw 4 0 4 (v := .ref q16) rfl rfl rfl (by decide) m4_226 d_Exp_increase_22 ?_
      obtain ⟨j20, s21, hj22⟩ := (show Sy P (some q16) by first | assumption | exact Fy.sy (by assumption)).at
      refine px_get S k_Sym hT hw 3 j20 2 (v := .int (s21 2)) rfl hj22 rfl (by decide) m1_213 d_Exp_increase_25 ?_
      refine lv_aload_n S.x S.b d_Exp_increase_28 rfl (lv_at hl 1 rfl) ?_
      refine px_get S k_Opd hT hw 4 0 4 (v := .ref q16) rfl rfl rfl (by decide) m4_226 d_Exp_increase_29 ?_
      refine px_get S k_Sym hT hw 3 j20 3 (v := .int (s21 3)) rfl hj22 rfl (by decide) m1_216 d_Exp_increase_32 ?_
      refine lv_aload_n S.x S.b d_Exp_increase_35 rfl (lv_at hl 1 rfl) ?_
      refine px_get S k_Opd hT hw 4 0 4 (v := .ref q16) rfl rfl rfl (by decide) m4_226 d_Exp_increase_36 ?_
      refine px_get S k_Sym hT hw 3 j20 4 (v := .int (s21 4)) rfl hj22 rfl (by decide) m1_219 d_Exp_increase_39 ?_
      have hw : pw D A s.heap _ _ [wd_Exp cs he re eo ef ea eg, P, wd_Opd cs hx (fun _ => 0) (fun k => if k = 4 then (some q16) else none) fx (fun _ _ => 0) (fun _ _ => none), wd_Prg cs (re 2) rp (fun k => if k = 2 then of else none) fp (fun _ _ => 0) (fun _ _ => none), [((rp 1), .inl (cs 0, cn, .inl cd))]] := hw.sub [0, 3, 4, 1, 2] rfl rfl
      refine px_calli (pr := [wd_Exp cs he re eo ef ea eg, P, wd_Opd cs hx (fun _ => 0) (fun k => if k = 4 then (some q16) else none) fx (fun _ _ => 0) (fun _ _ => none)]) (px_runV (As := [.int z19, .int (s21 2), .int (s21 3), .int (s21 4)]) (rest := []) S (c_pe_emit l D cs (re 2) rp of cn fp cd z19 (s21 2) (s21 3) (s21 4)  (show cn % 4 = 0 from by first | exact g0 | omega) (show cn ≤ 100000 from by first | exact g1 | omega) hrel.1 (hjp _) _) hT (pr := [wd_Exp cs he re eo ef ea eg, P, wd_Opd cs hx (fun _ => 0) (fun k => if k = 4 then (some q16) else none) fx (fun _ _ => 0) (fun _ _ => none)]) (pcs := [wd_Prg cs (re 2) rp (fun k => if k = 2 then of else none) fp (fun _ _ => 0) (fun _ _ => none), [((rp 1), .inl (cs 0, cn, .inl cd))]]) hw px_X.tt (px_recv hT hw 3 0 rfl rfl rfl) m4_181 m4_178 m4_179 m4_180 m1_16 q_Prg_emit ⟨Nat.le_of_ble_eq_true rfl, Nat.le_of_ble_eq_true rfl⟩ hl.1 rfl (Nat.le_of_ble_eq_true rfl) d_Exp_increase_42 ⟨Nat.le_of_ble_eq_true rfl, Nat.le_of_ble_eq_true rfl⟩) hw hA (fun v28 p27 H locs hp27 hw => ?_)
      obtain ⟨fp25, cd26, rfl, hv_v28, hem, hwx, hsz, k0fp25, k4fp25, k5fp25, hR_fp25⟩ := hp27
      have tv_v28 : v28.toInt = (fp 3).toInt := by rw [hv_v28]
      have pm29 := hem.2.1
      have hrel := hrel.tr hem
      have pz30 := hrel.nm
      have hsl_fp25 : (fp25 3).toInt ≤ (fp 3).toInt + 4 := by omega
      clear hsz
      have hw : pw D A s.heap H locs [wd_Exp cs he re eo ef ea eg, P, wd_Opd cs hx (fun _ => 0) (fun k => if k = 4 then (some q16) else none) fx (fun _ _ => 0) (fun _ _ => none), wd_Prg cs (re 2) rp (fun k => if k = 2 then of else none) fp25 (fun _ _ => 0) (fun _ _ => none), [((rp 1), .inl (cs 0, cn, .inl cd26))]] := hw
      have lv28 := Int32.le_toInt v28
      have uv28 := Int32.toInt_lt v28
      refine lv_pop S.x S.b d_Exp_increase_45 rfl ?_
      have hw : pw D A s.heap _ _ [wd_Exp cs he re eo ef ea eg, wd_Prg cs (re 2) rp (fun k => if k = 2 then of else none) fp25 (fun _ _ => 0) (fun _ _ => none), [((rp 1), .inl (cs 0, cn, .inl cd26))], P, wd_Opd cs hx (fun _ => 0) (fun k => if k = 4 then (some q16) else none) fx (fun _ _ => 0) (fun _ _ => none)] := hw.sub [0, 3, 4, 1, 2] rfl rfl
      exact J46 fp25 cd26 fx _ _ ls (show (fx 0).toInt = (fx 0).toInt from rfl) (show (fx 3).toInt = (fx 3).toInt from rfl) (show (fx 5).toInt = (fx 5).toInt from rfl) (show Prel cn (fp 3) cd (fp25 3) cd26 from hrel) (show (fp25 3).toInt ≤ (fp 3).toInt + 4 from by first | exact hsl_fp25 | omega) (show K_ex_increase_46 cn P (some q16) p0 p1 fp cd fx fp25 cd26 fx from (fun y_f0 y_f1 y_f2 k hE => Exists.intro (k + 1) (Or.inl ⟨rfl, Or.inr ⟨nc13, Or.inr ⟨q16, rfl, z18, ez18, z19, ez19, j20, s21, hj22, fp25, cd26, v28, hR_fp25, hE⟩⟩⟩))) hw (lv_sub hl [0, 1, 2, 3] rfl)
abbrev b_Exp_typeOf : ByteArray := prog_3_method_25_code
def y_Exp_typeOf : MethodName := ⟨"HomeSystem$Expressions", "typeOf", "(LHomeSystem$Symbol;)I"⟩
theorem d_Exp_typeOf_0 : decode b_Exp_typeOf 0 = .ok (.aload_n 0, 1) := by decide +kernel
theorem d_Exp_typeOf_1 : decode b_Exp_typeOf 1 = .ok (.getfield 95, 3) := by decide +kernel
theorem d_Exp_typeOf_4 : decode b_Exp_typeOf 4 = .ok (.iconst 2, 1) := by decide +kernel
theorem d_Exp_typeOf_5 : decode b_Exp_typeOf 5 = .ok (.iand, 1) := by decide +kernel
theorem d_Exp_typeOf_6 : decode b_Exp_typeOf 6 = .ok (.ifCond .eq 7, 3) := by decide +kernel
theorem d_Exp_typeOf_9 : decode b_Exp_typeOf 9 = .ok (.iconst 2, 1) := by decide +kernel
theorem d_Exp_typeOf_10 : decode b_Exp_typeOf 10 = .ok (.goto 4, 3) := by decide +kernel
theorem d_Exp_typeOf_13 : decode b_Exp_typeOf 13 = .ok (.iconst 1, 1) := by decide +kernel
theorem d_Exp_typeOf_14 : decode b_Exp_typeOf 14 = .ok (.ireturn, 1) := by decide +kernel
theorem q_Exp_typeOf : px_y y_Exp_typeOf 1 := by unfold px_y; decide +kernel
set_option maxHeartbeats 4000000 in
set_option maxRecDepth 100000 in
theorem c_ex_typeOf (l : Launch) (D : va_G) (cs : Nat → ClassId) (P : va_W) (fa : Nat) (hsy : Sy P (some fa)) : MetI l y_Exp_typeOf b_Exp_typeOf 1 (.int) D cs 0 0 (0) (0) [.ref fa] [P] (fun _ => True) (fun v ps => (ps = [P]) ∧ (R_ex_typeOf P fa v)) := by
  refine px_enter (by decide) (Nat.le_of_ble_eq_true rfl) ?_
  intro p e s m below meth c A ls hAe S hr hlk hnm hA hT hX hw hl
  have hl : lv_has ls 1 [(0, .ref fa)] := hl
  have cst1 : (1 : Int32).toInt = 1 := rfl
  have cst2 : (2 : Int32).toInt = 2 := rfl
  refine lv_aload_n S.x S.b d_Exp_typeOf_0 rfl (lv_at hl 0 rfl) ?_
  obtain ⟨j1, s2, hj3⟩ := (show Sy P (some fa) by first | assumption | exact Fy.sy (by assumption)).at
  refine px_get S k_Sym hT hw 0 j1 2 (v := .int (s2 2)) rfl hj3 rfl (by decide) m1_213 d_Exp_typeOf_1 ?_
  refine lv_iconst (v := 2) S.x S.b d_Exp_typeOf_4 (by decide) ?_
  refine lv_iand S.x S.b d_Exp_typeOf_5 ?_
  have lr4 := Int32.le_toInt (s2 2)
  have ur4 := Int32.toInt_lt (s2 2)
  refine lv_topi (fun z5 ez5 => ?_)
  have lz5 := Int32.le_toInt z5
  have uz5 := Int32.toInt_lt z5
  refine lv_if_eq (tgt := 13) S.x S.b d_Exp_typeOf_6 (by decide) (fun c6 => ?_) (fun c6 => ?_)
  · have nc6 : z5.toInt = (0 : Int) := (i_eq (x := z5) (y := 0)).mp c6
    refine lv_iconst (v := 1) S.x S.b d_Exp_typeOf_13 (by decide) ?_
    exact px_iret (v := 1) S hr rfl hlk hAe hw (Nat.le_of_ble_eq_true rfl) (Nat.le_of_ble_eq_true rfl) (⟨rfl, (show R_ex_typeOf P fa (1 : Int32) from (Or.inl ⟨j1, s2, hj3, z5, ez5, Or.inl ⟨nc6, rfl⟩⟩))⟩) d_Exp_typeOf_14
  · have nc6 : ¬ z5.toInt = (0 : Int) := mt (i_eq (x := z5) (y := 0)).mpr c6
    refine lv_iconst (v := 2) S.x S.b d_Exp_typeOf_9 (by decide) ?_
    refine lv_goto (tgt := 14) S.x S.b d_Exp_typeOf_10 (by decide) ?_
    exact px_iret (v := 2) S hr rfl hlk hAe hw (Nat.le_of_ble_eq_true rfl) (Nat.le_of_ble_eq_true rfl) (⟨rfl, (show R_ex_typeOf P fa (2 : Int32) from (Or.inl ⟨j1, s2, hj3, z5, ez5, Or.inr ⟨nc6, rfl⟩⟩))⟩) d_Exp_typeOf_14
abbrev b_Exp_hand : ByteArray := prog_3_method_24_code
def y_Exp_hand : MethodName := ⟨"HomeSystem$Expressions", "hand", "(LHomeSystem$Operand;I)V"⟩
theorem d_Exp_hand_0 : decode b_Exp_hand 0 = .ok (.aload_n 1, 1) := by decide +kernel
theorem d_Exp_hand_1 : decode b_Exp_hand 1 = .ok (.getfield 79, 3) := by decide +kernel
theorem d_Exp_hand_4 : decode b_Exp_hand 4 = .ok (.iconst 2, 1) := by decide +kernel
theorem d_Exp_hand_5 : decode b_Exp_hand 5 = .ok (.if_icmp .ne 10, 3) := by decide +kernel
theorem d_Exp_hand_8 : decode b_Exp_hand 8 = .ok (.aload_n 1, 1) := by decide +kernel
theorem d_Exp_hand_9 : decode b_Exp_hand 9 = .ok (.getfield 91, 3) := by decide +kernel
theorem d_Exp_hand_12 : decode b_Exp_hand 12 = .ok (.goto 4, 3) := by decide +kernel
theorem d_Exp_hand_15 : decode b_Exp_hand 15 = .ok (.aconst_null, 1) := by decide +kernel
theorem d_Exp_hand_16 : decode b_Exp_hand 16 = .ok (.astore_n 3, 1) := by decide +kernel
theorem d_Exp_hand_17 : decode b_Exp_hand 17 = .ok (.iload_n 2, 1) := by decide +kernel
theorem d_Exp_hand_18 : decode b_Exp_hand 18 = .ok (.iconst 2, 1) := by decide +kernel
theorem d_Exp_hand_19 : decode b_Exp_hand 19 = .ok (.if_icmp .ne 19, 3) := by decide +kernel
theorem d_Exp_hand_22 : decode b_Exp_hand 22 = .ok (.aload_n 0, 1) := by decide +kernel
theorem d_Exp_hand_23 : decode b_Exp_hand 23 = .ok (.getfield 19, 3) := by decide +kernel
theorem d_Exp_hand_26 : decode b_Exp_hand 26 = .ok (.bipush 10, 2) := by decide +kernel
theorem d_Exp_hand_28 : decode b_Exp_hand 28 = .ok (.iconst 0, 1) := by decide +kernel
theorem d_Exp_hand_29 : decode b_Exp_hand 29 = .ok (.iconst 0, 1) := by decide +kernel
theorem d_Exp_hand_30 : decode b_Exp_hand 30 = .ok (.iconst 0, 1) := by decide +kernel
theorem d_Exp_hand_31 : decode b_Exp_hand 31 = .ok (.invokevirtual 106, 3) := by decide +kernel
theorem d_Exp_hand_34 : decode b_Exp_hand 34 = .ok (.pop, 1) := by decide +kernel
theorem d_Exp_hand_35 : decode b_Exp_hand 35 = .ok (.goto 81, 3) := by decide +kernel
theorem d_Exp_hand_38 : decode b_Exp_hand 38 = .ok (.iload_n 2, 1) := by decide +kernel
theorem d_Exp_hand_39 : decode b_Exp_hand 39 = .ok (.bipush 16, 2) := by decide +kernel
theorem d_Exp_hand_41 : decode b_Exp_hand 41 = .ok (.if_icmp .lt 49, 3) := by decide +kernel
theorem d_Exp_hand_44 : decode b_Exp_hand 44 = .ok (.aload_n 3, 1) := by decide +kernel
theorem d_Exp_hand_45 : decode b_Exp_hand 45 = .ok (.ifnull 45, 3) := by decide +kernel
theorem d_Exp_hand_48 : decode b_Exp_hand 48 = .ok (.iload_n 2, 1) := by decide +kernel
theorem d_Exp_hand_49 : decode b_Exp_hand 49 = .ok (.bipush 16, 2) := by decide +kernel
theorem d_Exp_hand_51 : decode b_Exp_hand 51 = .ok (.if_icmp .eq 14, 3) := by decide +kernel
theorem d_Exp_hand_54 : decode b_Exp_hand 54 = .ok (.iload_n 2, 1) := by decide +kernel
theorem d_Exp_hand_55 : decode b_Exp_hand 55 = .ok (.bipush 16, 2) := by decide +kernel
theorem d_Exp_hand_57 : decode b_Exp_hand 57 = .ok (.aload_n 3, 1) := by decide +kernel
theorem d_Exp_hand_58 : decode b_Exp_hand 58 = .ok (.invokestatic 235, 3) := by decide +kernel
theorem d_Exp_hand_61 : decode b_Exp_hand 61 = .ok (.iadd, 1) := by decide +kernel
theorem d_Exp_hand_62 : decode b_Exp_hand 62 = .ok (.if_icmp .ne 28, 3) := by decide +kernel
theorem d_Exp_hand_65 : decode b_Exp_hand 65 = .ok (.aload_n 0, 1) := by decide +kernel
theorem d_Exp_hand_66 : decode b_Exp_hand 66 = .ok (.getfield 19, 3) := by decide +kernel
theorem d_Exp_hand_69 : decode b_Exp_hand 69 = .ok (.bipush 11, 2) := by decide +kernel
theorem d_Exp_hand_71 : decode b_Exp_hand 71 = .ok (.aload_n 3, 1) := by decide +kernel
theorem d_Exp_hand_72 : decode b_Exp_hand 72 = .ok (.getfield 95, 3) := by decide +kernel
theorem d_Exp_hand_75 : decode b_Exp_hand 75 = .ok (.aload_n 3, 1) := by decide +kernel
theorem d_Exp_hand_76 : decode b_Exp_hand 76 = .ok (.getfield 100, 3) := by decide +kernel
theorem d_Exp_hand_79 : decode b_Exp_hand 79 = .ok (.aload_n 3, 1) := by decide +kernel
theorem d_Exp_hand_80 : decode b_Exp_hand 80 = .ok (.getfield 103, 3) := by decide +kernel
theorem d_Exp_hand_83 : decode b_Exp_hand 83 = .ok (.invokevirtual 106, 3) := by decide +kernel
theorem d_Exp_hand_86 : decode b_Exp_hand 86 = .ok (.pop, 1) := by decide +kernel
theorem d_Exp_hand_87 : decode b_Exp_hand 87 = .ok (.goto 29, 3) := by decide +kernel
theorem d_Exp_hand_90 : decode b_Exp_hand 90 = .ok (.iload_n 2, 1) := by decide +kernel
theorem d_Exp_hand_91 : decode b_Exp_hand 91 = .ok (.bipush 16, 2) := by decide +kernel
theorem d_Exp_hand_93 : decode b_Exp_hand 93 = .ok (.if_icmp .lt 23, 3) := by decide +kernel
theorem d_Exp_hand_96 : decode b_Exp_hand 96 = .ok (.aload_n 1, 1) := by decide +kernel
theorem d_Exp_hand_97 : decode b_Exp_hand 97 = .ok (.getfield 79, 3) := by decide +kernel
theorem d_Exp_hand_100 : decode b_Exp_hand 100 = .ok (.iconst 4, 1) := by decide +kernel
theorem d_Exp_hand_101 : decode b_Exp_hand 101 = .ok (.if_icmp .eq 15, 3) := by decide +kernel
theorem d_Exp_hand_104 : decode b_Exp_hand 104 = .ok (.aload_n 0, 1) := by decide +kernel
theorem d_Exp_hand_105 : decode b_Exp_hand 105 = .ok (.getfield 9, 3) := by decide +kernel
theorem d_Exp_hand_108 : decode b_Exp_hand 108 = .ok (.iconst 3, 1) := by decide +kernel
theorem d_Exp_hand_109 : decode b_Exp_hand 109 = .ok (.aload_n 1, 1) := by decide +kernel
theorem d_Exp_hand_110 : decode b_Exp_hand 110 = .ok (.getfield 82, 3) := by decide +kernel
theorem d_Exp_hand_113 : decode b_Exp_hand 113 = .ok (.invokevirtual 85, 3) := by decide +kernel
theorem d_Exp_hand_116 : decode b_Exp_hand 116 = .ok (.return_, 1) := by decide +kernel
theorem q_Exp_hand : px_y y_Exp_hand 2 := by unfold px_y; decide +kernel
set_option maxHeartbeats 4000000 in
set_option maxRecDepth 100000 in
theorem c_ex_hand (l : Launch) (D : va_G) (cs : Nat → ClassId) (he : Nat) (re : Nat → Nat) (eo : Nat → Option Nat) (ef : Nat → Int32) (ea : Nat → Nat → Int32) (eg : Nat → Nat → Option Nat) (rt : Nat → Nat) (ot : Nat → Option Nat) (ta : Nat → Nat → Int32) (tg : Nat → Nat → Option Nat) (tf : Nat → Int32) (rp : Nat → Nat) (of : Option Nat) (cn : Nat) (fp : Nat → Int32) (cd : Nat → Int32) (P : va_W) (hx : Nat) (ox : Option Nat) (fx : Nat → Int32) (p0 : Int32)  (hinv0 : CurOk (tf 10) (tf 13) (tf 14) (tf 15) (tf 17) (ta 0)) (g0 : cn % 4 = 0) (g1 : cn ≤ 100000) (g2 : 0 ≤ (fx 0).toInt) (g3 : 0 ≤ (fx 3).toInt) (hpk : Pok cn (fp 3) cd) (hsx : Sy P ox) : MetV l y_Exp_hand b_Exp_hand 4 D cs 1 40 (0) (0) [.ref he, .ref hx, .int p0] [wd_Exp cs he re eo ef ea eg, wd_Tok cs (re 0) rt ot tf ta tg, wd_Prg cs (re 2) rp (fun k => if k = 2 then of else none) fp (fun _ _ => 0) (fun _ _ => none), [((rp 1), .inl (cs 0, cn, .inl cd))], P, wd_Opd cs hx (fun _ => 0) (fun k => if k = 4 then ox else none) fx (fun _ _ => 0) (fun _ _ => none)] (fun _ => True) (fun ps => ∃ (tf' : Nat → Int32) (fp' : Nat → Int32) (cd' : Nat → Int32), (ps = [wd_Exp cs he re eo ef ea eg, wd_Tok cs (re 0) rt ot tf' ta tg, wd_Prg cs (re 2) rp (fun k => if k = 2 then of else none) fp' (fun _ _ => 0) (fun _ _ => none), [((rp 1), .inl (cs 0, cn, .inl cd'))], P, wd_Opd cs hx (fun _ => 0) (fun k => if k = 4 then ox else none) fx (fun _ _ => 0) (fun _ _ => none)]) ∧ (CurOk (tf' 10) (tf' 13) (tf' 14) (tf' 15) (tf' 17) (ta 0)) ∧ ((tf' 10).toInt = (tf 10).toInt) ∧ ((tf' 13).toInt = (tf 13).toInt) ∧ ((tf' 14).toInt = (tf 14).toInt) ∧ ((tf' 15).toInt = (tf 15).toInt) ∧ (Prel cn (fp 3) cd (fp' 3) cd') ∧ ((fp' 3).toInt ≤ (fp 3).toInt + 4) ∧ (R_ex_hand cn P ox fx p0 tf fp cd tf' fp' cd')) := by
  refine px_enter (by decide) (Nat.le_of_ble_eq_true rfl) ?_
  intro p e s m below meth c A ls hAe S hr hlk hnm hA hT hX hw hl
  have hl : lv_has ls 4 [(0, .ref he), (1, .ref hx), (2, .int p0)] := hl
  have lp0 := Int32.le_toInt p0
  have up0 := Int32.toInt_lt p0
  have cst0 : (0 : Int32).toInt = 0 := rfl
  have cst2 : (2 : Int32).toInt = 2 := rfl
  have cst3 : (3 : Int32).toInt = 3 := rfl
  have cst4 : (4 : Int32).toInt = 4 := rfl
  have cst10 : (10 : Int32).toInt = 10 := rfl
  have cst11 : (11 : Int32).toInt = 11 := rfl
  have cst16 : (16 : Int32).toInt = 16 := rfl
  obtain ⟨⟨o1, o2⟩, ⟨o3, o4⟩, ⟨o5, o6⟩, o7, o8, hlast⟩ := hinv0
  have hrel := Prel.rf hpk
  have pz0 := hrel.nm
  have J116 : ∀ (tf_116 : Nat → Int32) (fp_116 : Nat → Int32) (cd_116 : Nat → Int32) (H : Heap) (locs : List Loc) (ls : Array Slot), (CurOk (tf_116 10) (tf_116 13) (tf_116 14) (tf_116 15) (tf_116 17) (ta 0)) → ((tf_116 10).toInt = (tf 10).toInt) → ((tf_116 13).toInt = (tf 13).toInt) → ((tf_116 14).toInt = (tf 14).toInt) → ((tf_116 15).toInt = (tf 15).toInt) → (Prel cn (fp 3) cd (fp_116 3) cd_116) → ((fp_116 3).toInt ≤ (fp 3).toInt + 4) → (K_ex_hand_116 cn P ox fx p0 tf fp cd tf_116 fp_116 cd_116) → pw D A s.heap H locs [wd_Exp cs he re eo ef ea eg, wd_Tok cs (re 0) rt ot tf_116 ta tg, wd_Prg cs (re 2) rp (fun k => if k = 2 then of else none) fp_116 (fun _ _ => 0) (fun _ _ => none), [((rp 1), .inl (cs 0, cn, .inl cd_116))], P, wd_Opd cs hx (fun _ => 0) (fun k => if k = 4 then ox else none) fx (fun _ _ => 0) (fun _ _ => none)] → lv_has ls 4 [(0, .ref he), (1, .ref hx), (2, .int p0)] → W p l e { frames := 1, cells := 0, slots := 0, locals := 40 } s m [.ref he, .ref hx, .int p0].toArray below meth c H locs 0 0 (MQ below (va_Qv (fun ps => ∃ (tf' : Nat → Int32) (fp' : Nat → Int32) (cd' : Nat → Int32), (ps = [wd_Exp cs he re eo ef ea eg, wd_Tok cs (re 0) rt ot tf' ta tg, wd_Prg cs (re 2) rp (fun k => if k = 2 then of else none) fp' (fun _ _ => 0) (fun _ _ => none), [((rp 1), .inl (cs 0, cn, .inl cd'))], P, wd_Opd cs hx (fun _ => 0) (fun k => if k = 4 then ox else none) fx (fun _ _ => 0) (fun _ _ => none)]) ∧ (CurOk (tf' 10) (tf' 13) (tf' 14) (tf' 15) (tf' 17) (ta 0)) ∧ ((tf' 10).toInt = (tf 10).toInt) ∧ ((tf' 13).toInt = (tf 13).toInt) ∧ ((tf' 14).toInt = (tf 14).toInt) ∧ ((tf' 15).toInt = (tf 15).toInt) ∧ (Prel cn (fp 3) cd (fp' 3) cd') ∧ ((fp' 3).toInt ≤ (fp 3).toInt + 4) ∧ (R_ex_hand cn P ox fx p0 tf fp cd tf' fp' cd')) (pc_B D (va_A ([wd_Exp cs he re eo ef ea eg, wd_Tok cs (re 0) rt ot tf ta tg, wd_Prg cs (re 2) rp (fun k => if k = 2 then of else none) fp (fun _ _ => 0) (fun _ _ => none), [((rp 1), .inl (cs 0, cn, .inl cd))], P, wd_Opd cs hx (fun _ => 0) (fun k => if k = 4 then ox else none) fx (fun _ _ => 0) (fun _ _ => none)] : List va_W).flatten s.heap.size)) (va_A ([wd_Exp cs he re eo ef ea eg, wd_Tok cs (re 0) rt ot tf ta tg, wd_Prg cs (re 2) rp (fun k => if k = 2 then of else none) fp (fun _ _ => 0) (fun _ _ => none), [((rp 1), .inl (cs 0, cn, .inl cd))], P, wd_Opd cs hx (fun _ => 0) (fun k => if k = 4 then ox else none) fx (fun _ _ => 0) (fun _ _ => none)] : List va_W).flatten s.heap.size)) [.ref he, .ref hx, .int p0].toArray s 0 0 A) (F0 m 116 ls []) := by
    intro tf_116 fp_116 cd_116 H locs ls hi116_0 k116_0 k116_1 k116_2 k116_3 k116_4 k116_5 k116_6 hw hl
    obtain ⟨⟨o1, o2⟩, ⟨o3, o4⟩, ⟨o5, o6⟩, o7, o8, hlast⟩ := hi116_0
    have hrel := k116_4
    have pz116 := hrel.nm
    exact px_vret S hr hlk hAe hw (Nat.le_of_ble_eq_true rfl) (Nat.le_of_ble_eq_true rfl) (⟨tf_116, fp_116, cd_116, rfl, (show CurOk (tf_116 10) (tf_116 13) (tf_116 14) (tf_116 15) (tf_116 17) (ta 0) from ⟨⟨by first | exact o1 | omega, by first | exact o2 | omega⟩, ⟨by first | exact o3 | omega, by first | exact o4 | omega⟩, ⟨by first | exact o5 | omega, by first | exact o6 | omega⟩, by first | exact o7 | omega, by omega, last_eq hlast (rfl)⟩), (show (tf_116 10).toInt = (tf 10).toInt from by first | exact k116_0 | omega), (show (tf_116 13).toInt = (tf 13).toInt from by first | exact k116_1 | omega), (show (tf_116 14).toInt = (tf 14).toInt from by first | exact k116_2 | omega), (show (tf_116 15).toInt = (tf 15).toInt from by first | exact k116_3 | omega), (show Prel cn (fp 3) cd (fp_116 3) cd_116 from hrel), (show (fp_116 3).toInt ≤ (fp 3).toInt + 4 from by first | exact k116_5 | omega), (show R_ex_hand cn P ox fx p0 tf fp cd tf_116 fp_116 cd_116 from (k116_6 _ _ _ 1 (Or.inr (Or.inr (Or.inl ⟨rfl, rfl, rfl, rfl, rfl, rfl, rfl, rfl, rfl⟩)))))⟩) d_Exp_hand_116
  have J90 : ∀ (tf_90 : Nat → Int32) (fp_90 : Nat → Int32) (cd_90 : Nat → Int32) (H : Heap) (locs : List Loc) (ls : Array Slot), (CurOk (tf_90 10) (tf_90 13) (tf_90 14) (tf_90 15) (tf_90 17) (ta 0)) → ((tf_90 10).toInt = (tf 10).toInt) → ((tf_90 13).toInt = (tf 13).toInt) → ((tf_90 14).toInt = (tf 14).toInt) → ((tf_90 15).toInt = (tf 15).toInt) → (Prel cn (fp 3) cd (fp_90 3) cd_90) → ((fp_90 3).toInt ≤ (fp 3).toInt + 4) → (K_ex_hand_90 cn P ox fx p0 tf fp cd tf_90 fp_90 cd_90) → pw D A s.heap H locs [wd_Exp cs he re eo ef ea eg, wd_Tok cs (re 0) rt ot tf_90 ta tg, wd_Prg cs (re 2) rp (fun k => if k = 2 then of else none) fp_90 (fun _ _ => 0) (fun _ _ => none), [((rp 1), .inl (cs 0, cn, .inl cd_90))], P, wd_Opd cs hx (fun _ => 0) (fun k => if k = 4 then ox else none) fx (fun _ _ => 0) (fun _ _ => none)] → lv_has ls 4 [(0, .ref he), (1, .ref hx), (2, .int p0)] → W p l e { frames := 1, cells := 0, slots := 0, locals := 40 } s m [.ref he, .ref hx, .int p0].toArray below meth c H locs 0 0 (MQ below (va_Qv (fun ps => ∃ (tf' : Nat → Int32) (fp' : Nat → Int32) (cd' : Nat → Int32), (ps = [wd_Exp cs he re eo ef ea eg, wd_Tok cs (re 0) rt ot tf' ta tg, wd_Prg cs (re 2) rp (fun k => if k = 2 then of else none) fp' (fun _ _ => 0) (fun _ _ => none), [((rp 1), .inl (cs 0, cn, .inl cd'))], P, wd_Opd cs hx (fun _ => 0) (fun k => if k = 4 then ox else none) fx (fun _ _ => 0) (fun _ _ => none)]) ∧ (CurOk (tf' 10) (tf' 13) (tf' 14) (tf' 15) (tf' 17) (ta 0)) ∧ ((tf' 10).toInt = (tf 10).toInt) ∧ ((tf' 13).toInt = (tf 13).toInt) ∧ ((tf' 14).toInt = (tf 14).toInt) ∧ ((tf' 15).toInt = (tf 15).toInt) ∧ (Prel cn (fp 3) cd (fp' 3) cd') ∧ ((fp' 3).toInt ≤ (fp 3).toInt + 4) ∧ (R_ex_hand cn P ox fx p0 tf fp cd tf' fp' cd')) (pc_B D (va_A ([wd_Exp cs he re eo ef ea eg, wd_Tok cs (re 0) rt ot tf ta tg, wd_Prg cs (re 2) rp (fun k => if k = 2 then of else none) fp (fun _ _ => 0) (fun _ _ => none), [((rp 1), .inl (cs 0, cn, .inl cd))], P, wd_Opd cs hx (fun _ => 0) (fun k => if k = 4 then ox else none) fx (fun _ _ => 0) (fun _ _ => none)] : List va_W).flatten s.heap.size)) (va_A ([wd_Exp cs he re eo ef ea eg, wd_Tok cs (re 0) rt ot tf ta tg, wd_Prg cs (re 2) rp (fun k => if k = 2 then of else none) fp (fun _ _ => 0) (fun _ _ => none), [((rp 1), .inl (cs 0, cn, .inl cd))], P, wd_Opd cs hx (fun _ => 0) (fun k => if k = 4 then ox else none) fx (fun _ _ => 0) (fun _ _ => none)] : List va_W).flatten s.heap.size)) [.ref he, .ref hx, .int p0].toArray s 0 0 A) (F0 m 90 ls []) := by
    intro tf_90 fp_90 cd_90 H locs ls hi90_0 k90_0 k90_1 k90_2 k90_3 k90_4 k90_5 k90_6 hw hl
    obtain ⟨⟨o1, o2⟩, ⟨o3, o4⟩, ⟨o5, o6⟩, o7, o8, hlast⟩ := hi90_0
    have hrel := k90_4
    have pz90 := hrel.nm
    refine lv_iload_n S.x S.b d_Exp_hand_90 rfl (lv_at hl 2 rfl) ?_
    refine lv_bipush (v := 16) S.x S.b d_Exp_hand_91 (by decide) ?_
    refine lv_icmp_lt (tgt := 116) S.x S.b d_Exp_hand_93 (by decide) (fun c1 => ?_) (fun c1 => ?_)
    · have nc1 : p0.toInt < (16 : Int) := (i_lt (x := p0) (y := 16)).mp c1
      exact J116 tf_90 fp_90 cd_90 _ _ ls (show CurOk (tf_90 10) (tf_90 13) (tf_90 14) (tf_90 15) (tf_90 17) (ta 0) from ⟨⟨by first | exact o1 | omega, by first | exact o2 | omega⟩, ⟨by first | exact o3 | omega, by first | exact o4 | omega⟩, ⟨by first | exact o5 | omega, by first | exact o6 | omega⟩, by first | exact o7 | omega, by omega, last_eq hlast (rfl)⟩) (show (tf_90 10).toInt = (tf 10).toInt from by first | exact k90_0 | omega) (show (tf_90 13).toInt = (tf 13).toInt from by first | exact k90_1 | omega) (show (tf_90 14).toInt = (tf 14).toInt from by first | exact k90_2 | omega) (show (tf_90 15).toInt = (tf 15).toInt from by first | exact k90_3 | omega) (show Prel cn (fp 3) cd (fp_90 3) cd_90 from hrel) (show (fp_90 3).toInt ≤ (fp 3).toInt + 4 from by first | exact k90_5 | omega) (show K_ex_hand_116 cn P ox fx p0 tf fp cd tf_90 fp_90 cd_90 from (fun y_f0 y_f1 y_f2 k hE => k90_6 y_f0 y_f1 y_f2 (k + 1) (Or.inr (Or.inl ⟨rfl, rfl, rfl, rfl, rfl, rfl, Or.inl ⟨nc1, hE⟩⟩)))) hw (lv_sub hl [0, 1, 2] rfl)
    · have nc1 : ¬ p0.toInt < (16 : Int) := mt (i_lt (x := p0) (y := 16)).mpr c1
      refine lv_aload_n S.x S.b d_Exp_hand_96 rfl (lv_at hl 1 rfl) ?_
      refine px_get S k_Opd hT hw 5 0 1 (v := .int (fx 1)) rfl rfl rfl (by decide) m4_221 d_Exp_hand_97 ?_
      refine lv_iconst (v := 4) S.x S.b d_Exp_hand_100 (by decide) ?_
      refine lv_icmp_eq (tgt := 116) S.x S.b d_Exp_hand_101 (by decide) (fun c3 => ?_) (fun c3 => ?_)
      · have nc3 : (fx 1).toInt = (4 : Int) := (i_eq (x := (fx 1)) (y := 4)).mp c3
        exact J116 tf_90 fp_90 cd_90 _ _ ls (show CurOk (tf_90 10) (tf_90 13) (tf_90 14) (tf_90 15) (tf_90 17) (ta 0) from ⟨⟨by first | exact o1 | omega, by first | exact o2 | omega⟩, ⟨by first | exact o3 | omega, by first | exact o4 | omega⟩, ⟨by first | exact o5 | omega, by first | exact o6 | omega⟩, by first | exact o7 | omega, by omega, last_eq hlast (rfl)⟩) (show (tf_90 10).toInt = (tf 10).toInt from by first | exact k90_0 | omega) (show (tf_90 13).toInt = (tf 13).toInt from by first | exact k90_1 | omega) (show (tf_90 14).toInt = (tf 14).toInt from by first | exact k90_2 | omega) (show (tf_90 15).toInt = (tf 15).toInt from by first | exact k90_3 | omega) (show Prel cn (fp 3) cd (fp_90 3) cd_90 from hrel) (show (fp_90 3).toInt ≤ (fp 3).toInt + 4 from by first | exact k90_5 | omega) (show K_ex_hand_116 cn P ox fx p0 tf fp cd tf_90 fp_90 cd_90 from (fun y_f0 y_f1 y_f2 k hE => k90_6 y_f0 y_f1 y_f2 (k + 1) (Or.inr (Or.inl ⟨rfl, rfl, rfl, rfl, rfl, rfl, Or.inr ⟨nc1, Or.inl ⟨nc3, hE⟩⟩⟩)))) hw (lv_sub hl [0, 1, 2] rfl)
      · have nc3 : ¬ (fx 1).toInt = (4 : Int) := mt (i_eq (x := (fx 1)) (y := 4)).mpr c3
        refine lv_aload_n S.x S.b d_Exp_hand_104 rfl (lv_at hl 0 rfl) ?_
        refine px_get S k_Exp hT hw 0 0 0 (v := .ref (re 0)) rfl rfl rfl (by decide) m2_131 d_Exp_hand_105 ?_
        refine lv_iconst (v := 3) S.x S.b d_Exp_hand_108 (by decide) ?_
        refine lv_aload_n S.x S.b d_Exp_hand_109 rfl (lv_at hl 1 rfl) ?_
        refine px_get S k_Opd hT hw 5 0 0 (v := .int (fx 0)) rfl rfl rfl (by decide) m4_218 d_Exp_hand_110 ?_
        have hw : pw D A s.heap _ _ [wd_Exp cs he re eo ef ea eg, wd_Prg cs (re 2) rp (fun k => if k = 2 then of else none) fp_90 (fun _ _ => 0) (fun _ _ => none), [((rp 1), .inl (cs 0, cn, .inl cd_90))], P, wd_Opd cs hx (fun _ => 0) (fun k => if k = 4 then ox else none) fx (fun _ _ => 0) (fun _ _ => none), wd_Tok cs (re 0) rt ot tf_90 ta tg] := hw.sub [0, 2, 3, 4, 5, 1] rfl rfl
        refine px_callv (pr := [wd_Exp cs he re eo ef ea eg, wd_Prg cs (re 2) rp (fun k => if k = 2 then of else none) fp_90 (fun _ _ => 0) (fun _ _ => none), [((rp 1), .inl (cs 0, cn, .inl cd_90))], P, wd_Opd cs hx (fun _ => 0) (fun k => if k = 4 then ox else none) fx (fun _ _ => 0) (fun _ _ => none)]) (px_runV (As := [.int 3, .int (fx 0)]) (rest := []) S (c_tk_blame l D cs (re 0) rt ot ta tg tf_90 3 (fx 0)  (show CurOk (tf_90 10) (tf_90 13) (tf_90 14) (tf_90 15) (tf_90 17) (ta 0) from ⟨⟨by first | exact o1 | omega, by first | exact o2 | omega⟩, ⟨by first | exact o3 | omega, by first | exact o4 | omega⟩, ⟨by first | exact o5 | omega, by first | exact o6 | omega⟩, by first | exact o7 | omega, by omega, last_eq hlast (rfl)⟩) (show 0 ≤ (fx 0).toInt from by first | exact g2 | omega) _) hT (pr := [wd_Exp cs he re eo ef ea eg, wd_Prg cs (re 2) rp (fun k => if k = 2 then of else none) fp_90 (fun _ _ => 0) (fun _ _ => none), [((rp 1), .inl (cs 0, cn, .inl cd_90))], P, wd_Opd cs hx (fun _ => 0) (fun k => if k = 4 then ox else none) fx (fun _ _ => 0) (fun _ _ => none)]) (pcs := [wd_Tok cs (re 0) rt ot tf_90 ta tg]) hw px_X.tt (px_recv hT hw 5 0 rfl rfl rfl) m4_173 m4_170 m4_171 m4_172 m1_2 q_Tok_blame ⟨Nat.le_of_ble_eq_true rfl, Nat.le_of_ble_eq_true rfl⟩ hl.1 rfl (Nat.le_of_ble_eq_true rfl) d_Exp_hand_113 ⟨Nat.le_of_ble_eq_true rfl, Nat.le_of_ble_eq_true rfl⟩) hw hA (fun p6 H locs hp6 hw => ?_)
        obtain ⟨tf5, rfl, h13, e8, e9, e10, e11, e12⟩ := hp6
        obtain ⟨⟨o1, o2⟩, ⟨o3, o4⟩, ⟨o5, o6⟩, o7, o8, hlast⟩ := h13
        have e8 : (tf5 10).toInt = (tf_90 10).toInt := e8
        have e9 : (tf5 14).toInt = (tf_90 14).toInt := e9
        have e10 : (tf5 15).toInt = (tf_90 15).toInt := e10
        have e11 : (tf5 13).toInt = (tf_90 13).toInt := e11
        have e12 : R_tk_blame (3 : Int32) (fx 0) tf_90 tf5 := e12
        have hw : pw D A s.heap H locs [wd_Exp cs he re eo ef ea eg, wd_Prg cs (re 2) rp (fun k => if k = 2 then of else none) fp_90 (fun _ _ => 0) (fun _ _ => none), [((rp 1), .inl (cs 0, cn, .inl cd_90))], P, wd_Opd cs hx (fun _ => 0) (fun k => if k = 4 then ox else none) fx (fun _ _ => 0) (fun _ _ => none), wd_Tok cs (re 0) rt ot tf5 ta tg] := hw
        have hw : pw D A s.heap _ _ [wd_Exp cs he re eo ef ea eg, wd_Tok cs (re 0) rt ot tf5 ta tg, wd_Prg cs (re 2) rp (fun k => if k = 2 then of else none) fp_90 (fun _ _ => 0) (fun _ _ => none), [((rp 1), .inl (cs 0, cn, .inl cd_90))], P, wd_Opd cs hx (fun _ => 0) (fun k => if k = 4 then ox else none) fx (fun _ _ => 0) (fun _ _ => none)] := hw.sub [0, 5, 1, 2, 3, 4] rfl rfl
        exact J116 tf5 fp_90 cd_90 _ _ ls (show CurOk (tf5 10) (tf5 13) (tf5 14) (tf5 15) (tf5 17) (ta 0) from ⟨⟨by first | exact o1 | omega, by first | exact o2 | omega⟩, ⟨by first | exact o3 | omega, by first | exact o4 | omega⟩, ⟨by first | exact o5 | omega, by first | exact o6 | omega⟩, by first | exact o7 | omega, by omega, last_eq hlast (rfl)⟩) (show (tf5 10).toInt = (tf 10).toInt from by first | exact oz_1687f4cc65 k90_0 e8 | omega) (show (tf5 13).toInt = (tf 13).toInt from by first | exact oz_1687f4cc65 k90_1 e11 | omega) (show (tf5 14).toInt = (tf 14).toInt from by first | exact oz_1687f4cc65 k90_2 e9 | omega) (show (tf5 15).toInt = (tf 15).toInt from by first | exact oz_1687f4cc65 k90_3 e10 | omega) (show Prel cn (fp 3) cd (fp_90 3) cd_90 from hrel) (show (fp_90 3).toInt ≤ (fp 3).toInt + 4 from by first | exact k90_5 | omega) (show K_ex_hand_116 cn P ox fx p0 tf fp cd tf5 fp_90 cd_90 from (fun y_f0 y_f1 y_f2 k hE => k90_6 y_f0 y_f1 y_f2 (k + 1) (Or.inr (Or.inl ⟨rfl, rfl, rfl, rfl, rfl, rfl, Or.inr ⟨nc1, Or.inr ⟨nc3, tf5, e12, hE⟩⟩⟩)))) hw (lv_sub hl [0, 1, 2] rfl)
  refine lv_aload_n S.x S.b d_Exp_hand_0 rfl (lv_at hl 1 rfl) ?_
  refine px_get S k_Opd hT hw 5 0 1 (v := .int (fx 1)) rfl rfl rfl (by decide) m4_221 d_Exp_hand_1 ?_
  refine lv_iconst (v := 2) S.x S.b d_Exp_hand_4 (by decide) ?_
  refine lv_icmp_ne (tgt := 15) S.x S.b d_Exp_hand_5 (by decide) (fun c14 => ?_) (fun c14 => ?_)
  · have nc14 : ¬ (fx 1).toInt = (2 : Int) := mt (i_eq (x := (fx 1)) (y := 2)).mpr c14
    refine lv_null S.x S.b d_Exp_hand_15 ?_
    refine lq_astore_n (x := none) (lv' := [(3, .null), (0, .ref he), (1, .ref hx), (2, .int p0)]) S.x S.b d_Exp_hand_16 rfl hl (by decide) rfl (fun ls hl => ?_)
    refine lv_iload_n S.x S.b d_Exp_hand_17 rfl (lv_at hl 3 rfl) ?_
    refine lv_iconst (v := 2) S.x S.b d_Exp_hand_18 (by decide) ?_
    refine lv_icmp_ne (tgt := 38) S.x S.b d_Exp_hand_19 (by decide) (fun c16 => ?_) (fun c16 => ?_)
    · have nc16 : ¬ p0.toInt = (2 : Int) := mt (i_eq (x := p0) (y := 2)).mpr c16
      refine lv_iload_n S.x S.b d_Exp_hand_38 rfl (lv_at hl 3 rfl) ?_
      refine lv_bipush (v := 16) S.x S.b d_Exp_hand_39 (by decide) ?_
      refine lv_icmp_lt (tgt := 90) S.x S.b d_Exp_hand_41 (by decide) (fun c18 => ?_) (fun c18 => ?_)
      · have nc18 : p0.toInt < (16 : Int) := (i_lt (x := p0) (y := 16)).mp c18
        exact J90 tf fp cd _ _ ls (show CurOk (tf 10) (tf 13) (tf 14) (tf 15) (tf 17) (ta 0) from ⟨⟨by first | exact o1 | omega, by first | exact o2 | omega⟩, ⟨by first | exact o3 | omega, by first | exact o4 | omega⟩, ⟨by first | exact o5 | omega, by first | exact o6 | omega⟩, by first | exact o7 | omega, by omega, last_eq hlast (rfl)⟩) (show (tf 10).toInt = (tf 10).toInt from rfl) (show (tf 13).toInt = (tf 13).toInt from rfl) (show (tf 14).toInt = (tf 14).toInt from rfl) (show (tf 15).toInt = (tf 15).toInt from rfl) (show Prel cn (fp 3) cd (fp 3) cd from hrel) (show (fp 3).toInt ≤ (fp 3).toInt + 4 from by first | exact oz_4550f3b49c | omega) (show K_ex_hand_90 cn P ox fx p0 tf fp cd tf fp cd from (fun y_f0 y_f1 y_f2 k hE => Exists.intro (k + 1) (Or.inl ⟨rfl, Or.inl ⟨nc14, Or.inl ⟨nc16, Or.inl ⟨nc18, hE⟩⟩⟩⟩))) hw (lv_sub hl [1, 2, 3] rfl)
      · have nc18 : ¬ p0.toInt < (16 : Int) := mt (i_lt (x := p0) (y := 16)).mpr c18
        refine lq_aload_n (x := none) S.x S.b d_Exp_hand_44 rfl (lv_at hl 0 rfl) ?_
        refine lv_ifnullN (tgt := 90) S.x S.b d_Exp_hand_45 (by decide) ?_
        exact J90 tf fp cd _ _ ls (show CurOk (tf 10) (tf 13) (tf 14) (tf 15) (tf 17) (ta 0) from ⟨⟨by first | exact o1 | omega, by first | exact o2 | omega⟩, ⟨by first | exact o3 | omega, by first | exact o4 | omega⟩, ⟨by first | exact o5 | omega, by first | exact o6 | omega⟩, by first | exact o7 | omega, by omega, last_eq hlast (rfl)⟩) (show (tf 10).toInt = (tf 10).toInt from rfl) (show (tf 13).toInt = (tf 13).toInt from rfl) (show (tf 14).toInt = (tf 14).toInt from rfl) (show (tf 15).toInt = (tf 15).toInt from rfl) (show Prel cn (fp 3) cd (fp 3) cd from hrel) (show (fp 3).toInt ≤ (fp 3).toInt + 4 from by first | exact oz_4550f3b49c | omega) (show K_ex_hand_90 cn P ox fx p0 tf fp cd tf fp cd from (fun y_f0 y_f1 y_f2 k hE => Exists.intro (k + 1) (Or.inl ⟨rfl, Or.inl ⟨nc14, Or.inl ⟨nc16, Or.inr ⟨nc18, hE⟩⟩⟩⟩))) hw (lv_sub hl [1, 2, 3] rfl)
    · have nc16 : p0.toInt = (2 : Int) := (i_eq (x := p0) (y := 2)).mp c16
      refine lv_aload_n S.x S.b d_Exp_hand_22 rfl (lv_at hl 1 rfl) ?_
      refine px_get S k_Exp hT hw 0 0 2 (v := .ref (re 2)) rfl rfl rfl (by decide) m2_133 d_Exp_hand_23 ?_
      refine lv_bipush (v := 10) S.x S.b d_Exp_hand_26 (by decide) ?_
      refine lv_iconst (v := 0) S.x S.b d_Exp_hand_28 (by decide) ?_
      refine lv_iconst (v := 0) S.x S.b d_Exp_hand_29 (by decide) ?_
      refine lv_iconst (v := 0) S.x S.b d_Exp_hand_30 (by decide) ?_
      have hw : pw D A s.heap _ _ [wd_Exp cs he re eo ef ea eg, wd_Tok cs (re 0) rt ot tf ta tg, P, wd_Opd cs hx (fun _ => 0) (fun k => if k = 4 then ox else none) fx (fun _ _ => 0) (fun _ _ => none), wd_Prg cs (re 2) rp (fun k => if k = 2 then of else none) fp (fun _ _ => 0) (fun _ _ => none), [((rp 1), .inl (cs 0, cn, .inl cd))]] := hw.sub [0, 1, 4, 5, 2, 3] rfl rfl
      refine px_calli (pr := [wd_Exp cs he re eo ef ea eg, wd_Tok cs (re 0) rt ot tf ta tg, P, wd_Opd cs hx (fun _ => 0) (fun k => if k = 4 then ox else none) fx (fun _ _ => 0) (fun _ _ => none)]) (px_runV (As := [.int 10, .int 0, .int 0, .int 0]) (rest := []) S (c_pe_emit l D cs (re 2) rp of cn fp cd 10 0 0 0  (show cn % 4 = 0 from by first | exact g0 | omega) (show cn ≤ 100000 from by first | exact g1 | omega) hrel.1 (jop_low (by decide)) _) hT (pr := [wd_Exp cs he re eo ef ea eg, wd_Tok cs (re 0) rt ot tf ta tg, P, wd_Opd cs hx (fun _ => 0) (fun k => if k = 4 then ox else none) fx (fun _ _ => 0) (fun _ _ => none)]) (pcs := [wd_Prg cs (re 2) rp (fun k => if k = 2 then of else none) fp (fun _ _ => 0) (fun _ _ => none), [((rp 1), .inl (cs 0, cn, .inl cd))]]) hw px_X.tt (px_recv hT hw 4 0 rfl rfl rfl) m4_181 m4_178 m4_179 m4_180 m1_16 q_Prg_emit ⟨Nat.le_of_ble_eq_true rfl, Nat.le_of_ble_eq_true rfl⟩ hl.1 rfl (Nat.le_of_ble_eq_true rfl) d_Exp_hand_31 ⟨Nat.le_of_ble_eq_true rfl, Nat.le_of_ble_eq_true rfl⟩) hw hA (fun v25 p24 H locs hp24 hw => ?_)
      obtain ⟨fp22, cd23, rfl, hv_v25, hem, hwx, hsz, k0fp22, k4fp22, k5fp22, hR_fp22⟩ := hp24
      have tv_v25 : v25.toInt = (fp 3).toInt := by rw [hv_v25]
      have pm26 := hem.2.1
      have hrel := hrel.tr hem
      have pz27 := hrel.nm
      have hsl_fp22 : (fp22 3).toInt ≤ (fp 3).toInt + 4 := by omega
      clear hsz
      have hw : pw D A s.heap H locs [wd_Exp cs he re eo ef ea eg, wd_Tok cs (re 0) rt ot tf ta tg, P, wd_Opd cs hx (fun _ => 0) (fun k => if k = 4 then ox else none) fx (fun _ _ => 0) (fun _ _ => none), wd_Prg cs (re 2) rp (fun k => if k = 2 then of else none) fp22 (fun _ _ => 0) (fun _ _ => none), [((rp 1), .inl (cs 0, cn, .inl cd23))]] := hw
      have lv25 := Int32.le_toInt v25
      have uv25 := Int32.toInt_lt v25
      refine lv_pop S.x S.b d_Exp_hand_34 rfl ?_
      refine lv_goto (tgt := 116) S.x S.b d_Exp_hand_35 (by decide) ?_
      have hw : pw D A s.heap _ _ [wd_Exp cs he re eo ef ea eg, wd_Tok cs (re 0) rt ot tf ta tg, wd_Prg cs (re 2) rp (fun k => if k = 2 then of else none) fp22 (fun _ _ => 0) (fun _ _ => none), [((rp 1), .inl (cs 0, cn, .inl cd23))], P, wd_Opd cs hx (fun _ => 0) (fun k => if k = 4 then ox else none) fx (fun _ _ => 0) (fun _ _ => none)] := hw.sub [0, 1, 4, 5, 2, 3] rfl rfl
      exact J116 tf fp22 cd23 _ _ ls (show CurOk (tf 10) (tf 13) (tf 14) (tf 15) (tf 17) (ta 0) from ⟨⟨by first | exact o1 | omega, by first | exact o2 | omega⟩, ⟨by first | exact o3 | omega, by first | exact o4 | omega⟩, ⟨by first | exact o5 | omega, by first | exact o6 | omega⟩, by first | exact o7 | omega, by omega, last_eq hlast (rfl)⟩) (show (tf 10).toInt = (tf 10).toInt from rfl) (show (tf 13).toInt = (tf 13).toInt from rfl) (show (tf 14).toInt = (tf 14).toInt from rfl) (show (tf 15).toInt = (tf 15).toInt from rfl) (show Prel cn (fp 3) cd (fp22 3) cd23 from hrel) (show (fp22 3).toInt ≤ (fp 3).toInt + 4 from by first | exact hsl_fp22 | omega) (show K_ex_hand_116 cn P ox fx p0 tf fp cd tf fp22 cd23 from (fun y_f0 y_f1 y_f2 k hE => Exists.intro (k + 1) (Or.inl ⟨rfl, Or.inl ⟨nc14, Or.inr ⟨nc16, fp22, cd23, v25, hR_fp22, hE⟩⟩⟩))) hw (lv_sub hl [1, 2, 3] rfl)
  · have nc14 : (fx 1).toInt = (2 : Int) := (i_eq (x := (fx 1)) (y := 2)).mp c14
    refine lv_aload_n S.x S.b d_Exp_hand_8 rfl (lv_at hl 1 rfl) ?_
    refine px_get S k_Opd hT hw 5 0 4 (v := va_rf ox) rfl rfl rfl (by decide) m4_226 d_Exp_hand_9 ?_
    refine lv_goto (tgt := 16) S.x S.b d_Exp_hand_12 (by decide) ?_
    refine lq_astore_n (x := ox) (lv' := [(3, va_rf ox), (0, .ref he), (1, .ref hx), (2, .int p0)]) S.x S.b d_Exp_hand_16 rfl hl (by decide) rfl (fun ls hl => ?_)
    refine lv_iload_n S.x S.b d_Exp_hand_17 rfl (lv_at hl 3 rfl) ?_
    refine lv_iconst (v := 2) S.x S.b d_Exp_hand_18 (by decide) ?_
    refine lv_icmp_ne (tgt := 38) S.x S.b d_Exp_hand_19 (by decide) (fun c28 => ?_) (fun c28 => ?_)
    · have nc28 : ¬ p0.toInt = (2 : Int) := mt (i_eq (x := p0) (y := 2)).mpr c28
      refine lv_iload_n S.x S.b d_Exp_hand_38 rfl (lv_at hl 3 rfl) ?_
      refine lv_bipush (v := 16) S.x S.b d_Exp_hand_39 (by decide) ?_
      refine lv_icmp_lt (tgt := 90) S.x S.b d_Exp_hand_41 (by decide) (fun c30 => ?_) (fun c30 => ?_)
      · have nc30 : p0.toInt < (16 : Int) := (i_lt (x := p0) (y := 16)).mp c30
        exact J90 tf fp cd _ _ ls (show CurOk (tf 10) (tf 13) (tf 14) (tf 15) (tf 17) (ta 0) from ⟨⟨by first | exact o1 | omega, by first | exact o2 | omega⟩, ⟨by first | exact o3 | omega, by first | exact o4 | omega⟩, ⟨by first | exact o5 | omega, by first | exact o6 | omega⟩, by first | exact o7 | omega, by omega, last_eq hlast (rfl)⟩) (show (tf 10).toInt = (tf 10).toInt from rfl) (show (tf 13).toInt = (tf 13).toInt from rfl) (show (tf 14).toInt = (tf 14).toInt from rfl) (show (tf 15).toInt = (tf 15).toInt from rfl) (show Prel cn (fp 3) cd (fp 3) cd from hrel) (show (fp 3).toInt ≤ (fp 3).toInt + 4 from by first | exact oz_4550f3b49c | omega) (show K_ex_hand_90 cn P ox fx p0 tf fp cd tf fp cd from (fun y_f0 y_f1 y_f2 k hE => Exists.intro (k + 1) (Or.inl ⟨rfl, Or.inr ⟨nc14, Or.inl ⟨nc28, Or.inl ⟨nc30, hE⟩⟩⟩⟩))) hw (lv_sub hl [1, 2, 3] rfl)
      · have nc30 : ¬ p0.toInt < (16 : Int) := mt (i_lt (x := p0) (y := 16)).mpr c30
        refine lq_aload_n (x := ox) S.x S.b d_Exp_hand_44 rfl (lv_at hl 0 rfl) ?_
        refine lq_ifnull (x := ox) (tgt := 90) S.x S.b d_Exp_hand_45 (by decide) (fun c32 => ?_) (fun q33 c32 => ?_)
        ·
          subst c32
          exact J90 tf fp cd _ _ ls (show CurOk (tf 10) (tf 13) (tf 14) (tf 15) (tf 17) (ta 0) from ⟨⟨by first | exact o1 | omega, by first | exact o2 | omega⟩, ⟨by first | exact o3 | omega, by first | exact o4 | omega⟩, ⟨by first | exact o5 | omega, by first | exact o6 | omega⟩, by first | exact o7 | omega, by omega, last_eq hlast (rfl)⟩) (show (tf 10).toInt = (tf 10).toInt from rfl) (show (tf 13).toInt = (tf 13).toInt from rfl) (show (tf 14).toInt = (tf 14).toInt from rfl) (show (tf 15).toInt = (tf 15).toInt from rfl) (show Prel cn (fp 3) cd (fp 3) cd from hrel) (show (fp 3).toInt ≤ (fp 3).toInt + 4 from by first | exact oz_4550f3b49c | omega) (show K_ex_hand_90 cn P none fx p0 tf fp cd tf fp cd from (fun y_f0 y_f1 y_f2 k hE => Exists.intro (k + 1) (Or.inl ⟨rfl, Or.inr ⟨nc14, Or.inl ⟨nc28, Or.inr ⟨nc30, Or.inl ⟨rfl, hE⟩⟩⟩⟩⟩))) hw (lv_sub hl [1, 2, 3] rfl)
        ·
          subst c32
          refine lv_iload_n S.x S.b d_Exp_hand_48 rfl (lv_at hl 3 rfl) ?_
          refine lv_bipush (v := 16) S.x S.b d_Exp_hand_49 (by decide) ?_
          refine lv_icmp_eq (tgt := 65) S.x S.b d_Exp_hand_51 (by decide) (fun c35 => ?_) (fun c35 => ?_)
          · have nc35 : p0.toInt = (16 : Int) := (i_eq (x := p0) (y := 16)).mp c35
            refine lv_aload_n S.x S.b d_Exp_hand_65 rfl (lv_at hl 1 rfl) ?_
            refine px_get S k_Exp hT hw 0 0 2 (v := .ref (re 2)) rfl rfl rfl (by decide) m2_133 d_Exp_hand_66 ?_
            refine lv_bipush (v := 11) S.x S.b d_Exp_hand_69 (by decide) ?_
            refine lv_aload_n S.x S.b d_Exp_hand_71 rfl (lv_at hl 0 rfl) ?_
            obtain ⟨j37, s38, hj39⟩ := (show Sy P (some q33) by first | assumption | exact Fy.sy (by assumption)).at
            refine px_get S k_Sym hT hw 4 j37 2 (v := .int (s38 2)) rfl hj39 rfl (by decide) m1_213 d_Exp_hand_72 ?_
            refine lv_aload_n S.x S.b d_Exp_hand_75 rfl (lv_at hl 0 rfl) ?_
            refine px_get S k_Sym hT hw 4 j37 3 (v := .int (s38 3)) rfl hj39 rfl (by decide) m1_216 d_Exp_hand_76 ?_
            refine lv_aload_n S.x S.b d_Exp_hand_79 rfl (lv_at hl 0 rfl) ?_
            refine px_get S k_Sym hT hw 4 j37 4 (v := .int (s38 4)) rfl hj39 rfl (by decide) m1_219 d_Exp_hand_80 ?_
            have hw : pw D A s.heap _ _ [wd_Exp cs he re eo ef ea eg, wd_Tok cs (re 0) rt ot tf ta tg, P, wd_Opd cs hx (fun _ => 0) (fun k => if k = 4 then (some q33) else none) fx (fun _ _ => 0) (fun _ _ => none), wd_Prg cs (re 2) rp (fun k => if k = 2 then of else none) fp (fun _ _ => 0) (fun _ _ => none), [((rp 1), .inl (cs 0, cn, .inl cd))]] := hw.sub [0, 1, 4, 5, 2, 3] rfl rfl
            refine px_calli (pr := [wd_Exp cs he re eo ef ea eg, wd_Tok cs (re 0) rt ot tf ta tg, P, wd_Opd cs hx (fun _ => 0) (fun k => if k = 4 then (some q33) else none) fx (fun _ _ => 0) (fun _ _ => none)]) (px_runV (As := [.int 11, .int (s38 2), .int (s38 3), .int (s38 4)]) (rest := []) S (c_pe_emit l D cs (re 2) rp of cn fp cd 11 (s38 2) (s38 3) (s38 4)  (show cn % 4 = 0 from by first | exact g0 | omega) (show cn ≤ 100000 from by first | exact g1 | omega) hrel.1 (jop_low (by decide)) _) hT (pr := [wd_Exp cs he re eo ef ea eg, wd_Tok cs (re 0) rt ot tf ta tg, P, wd_Opd cs hx (fun _ => 0) (fun k => if k = 4 then (some q33) else none) fx (fun _ _ => 0) (fun _ _ => none)]) (pcs := [wd_Prg cs (re 2) rp (fun k => if k = 2 then of else none) fp (fun _ _ => 0) (fun _ _ => none), [((rp 1), .inl (cs 0, cn, .inl cd))]]) hw px_X.tt (px_recv hT hw 4 0 rfl rfl rfl) m4_181 m4_178 m4_179 m4_180 m1_16 q_Prg_emit ⟨Nat.le_of_ble_eq_true rfl, Nat.le_of_ble_eq_true rfl⟩ hl.1 rfl (Nat.le_of_ble_eq_true rfl) d_Exp_hand_83 ⟨Nat.le_of_ble_eq_true rfl, Nat.le_of_ble_eq_true rfl⟩) hw hA (fun v45 p44 H locs hp44 hw => ?_)
            obtain ⟨fp42, cd43, rfl, hv_v45, hem, hwx, hsz, k0fp42, k4fp42, k5fp42, hR_fp42⟩ := hp44
            have tv_v45 : v45.toInt = (fp 3).toInt := by rw [hv_v45]
            have pm46 := hem.2.1
            have hrel := hrel.tr hem
            have pz47 := hrel.nm
            have hsl_fp42 : (fp42 3).toInt ≤ (fp 3).toInt + 4 := by omega
            clear hsz
            have hw : pw D A s.heap H locs [wd_Exp cs he re eo ef ea eg, wd_Tok cs (re 0) rt ot tf ta tg, P, wd_Opd cs hx (fun _ => 0) (fun k => if k = 4 then (some q33) else none) fx (fun _ _ => 0) (fun _ _ => none), wd_Prg cs (re 2) rp (fun k => if k = 2 then of else none) fp42 (fun _ _ => 0) (fun _ _ => none), [((rp 1), .inl (cs 0, cn, .inl cd43))]] := hw
            have lv45 := Int32.le_toInt v45
            have uv45 := Int32.toInt_lt v45
            refine lv_pop S.x S.b d_Exp_hand_86 rfl ?_
            refine lv_goto (tgt := 116) S.x S.b d_Exp_hand_87 (by decide) ?_
            have hw : pw D A s.heap _ _ [wd_Exp cs he re eo ef ea eg, wd_Tok cs (re 0) rt ot tf ta tg, wd_Prg cs (re 2) rp (fun k => if k = 2 then of else none) fp42 (fun _ _ => 0) (fun _ _ => none), [((rp 1), .inl (cs 0, cn, .inl cd43))], P, wd_Opd cs hx (fun _ => 0) (fun k => if k = 4 then (some q33) else none) fx (fun _ _ => 0) (fun _ _ => none)] := hw.sub [0, 1, 4, 5, 2, 3] rfl rfl
            exact J116 tf fp42 cd43 _ _ ls (show CurOk (tf 10) (tf 13) (tf 14) (tf 15) (tf 17) (ta 0) from ⟨⟨by first | exact o1 | omega, by first | exact o2 | omega⟩, ⟨by first | exact o3 | omega, by first | exact o4 | omega⟩, ⟨by first | exact o5 | omega, by first | exact o6 | omega⟩, by first | exact o7 | omega, by omega, last_eq hlast (rfl)⟩) (show (tf 10).toInt = (tf 10).toInt from rfl) (show (tf 13).toInt = (tf 13).toInt from rfl) (show (tf 14).toInt = (tf 14).toInt from rfl) (show (tf 15).toInt = (tf 15).toInt from rfl) (show Prel cn (fp 3) cd (fp42 3) cd43 from hrel) (show (fp42 3).toInt ≤ (fp 3).toInt + 4 from by first | exact hsl_fp42 | omega) (show K_ex_hand_116 cn P (some q33) fx p0 tf fp cd tf fp42 cd43 from (fun y_f0 y_f1 y_f2 k hE => Exists.intro (k + 1) (Or.inl ⟨rfl, Or.inr ⟨nc14, Or.inl ⟨nc28, Or.inr ⟨nc30, Or.inr ⟨q33, rfl, Or.inl ⟨nc35, j37, s38, hj39, fp42, cd43, v45, hR_fp42, hE⟩⟩⟩⟩⟩⟩))) hw (lv_sub hl [1, 2, 3] rfl)
          · have nc35 : ¬ p0.toInt = (16 : Int) := mt (i_eq (x := p0) (y := 16)).mpr c35
            refine lv_iload_n S.x S.b d_Exp_hand_54 rfl (lv_at hl 3 rfl) ?_
            refine lv_bipush (v := 16) S.x S.b d_Exp_hand_55 (by decide) ?_
            refine lv_aload_n S.x S.b d_Exp_hand_57 rfl (lv_at hl 0 rfl) ?_
            have hw : pw D A s.heap _ _ [wd_Exp cs he re eo ef ea eg, wd_Tok cs (re 0) rt ot tf ta tg, wd_Prg cs (re 2) rp (fun k => if k = 2 then of else none) fp (fun _ _ => 0) (fun _ _ => none), [((rp 1), .inl (cs 0, cn, .inl cd))], wd_Opd cs hx (fun _ => 0) (fun k => if k = 4 then (some q33) else none) fx (fun _ _ => 0) (fun _ _ => none), P] := hw.sub [0, 1, 2, 3, 5, 4] rfl rfl
            refine px_calli (pr := [wd_Exp cs he re eo ef ea eg, wd_Tok cs (re 0) rt ot tf ta tg, wd_Prg cs (re 2) rp (fun k => if k = 2 then of else none) fp (fun _ _ => 0) (fun _ _ => none), [((rp 1), .inl (cs 0, cn, .inl cd))], wd_Opd cs hx (fun _ => 0) (fun k => if k = 4 then (some q33) else none) fx (fun _ _ => 0) (fun _ _ => none)]) (px_runS (As := [.ref q33]) (rest := [.int 16, .int p0]) S (c_ex_typeOf l D cs P  q33 (by first | assumption | exact sy_none | exact fy_none | exact Fy.sy (by assumption) | exact sy_some (by assumption)) _) hT (pr := [wd_Exp cs he re eo ef ea eg, wd_Tok cs (re 0) rt ot tf ta tg, wd_Prg cs (re 2) rp (fun k => if k = 2 then of else none) fp (fun _ _ => 0) (fun _ _ => none), [((rp 1), .inl (cs 0, cn, .inl cd))], wd_Opd cs hx (fun _ => 0) (fun k => if k = 4 then (some q33) else none) fx (fun _ _ => 0) (fun _ _ => none)]) (pcs := [P]) hw px_X.tt m5_42 m5_40 m5_41 m1_17 q_Exp_typeOf ⟨Nat.le_of_ble_eq_true rfl, Nat.le_of_ble_eq_true rfl⟩ hl.1 rfl (Nat.le_of_ble_eq_true rfl) d_Exp_hand_58 ⟨Nat.le_of_ble_eq_true rfl, Nat.le_of_ble_eq_true rfl⟩) hw hA (fun v49 p48 H locs hp48 hw => ?_)
            obtain ⟨rfl, e50⟩ := hp48
            have e50 : R_ex_typeOf P q33 v49 := e50
            have hw : pw D A s.heap H locs [wd_Exp cs he re eo ef ea eg, wd_Tok cs (re 0) rt ot tf ta tg, wd_Prg cs (re 2) rp (fun k => if k = 2 then of else none) fp (fun _ _ => 0) (fun _ _ => none), [((rp 1), .inl (cs 0, cn, .inl cd))], wd_Opd cs hx (fun _ => 0) (fun k => if k = 4 then (some q33) else none) fx (fun _ _ => 0) (fun _ _ => none), P] := hw
            have lv49 := Int32.le_toInt v49
            have uv49 := Int32.toInt_lt v49
            refine lv_iadd S.x S.b d_Exp_hand_61 ?_
            refine lv_topi (fun z51 ez51 => ?_)
            have tz51 : z51.toInt = ((16 : Int) + v49.toInt + 2147483648) % 4294967296 - 2147483648 := by rw [ez51]; exact i_add 16 v49
            have lz51 := Int32.le_toInt z51
            have uz51 := Int32.toInt_lt z51
            try replace tz51 : z51.toInt = (16 : Int) + v49.toInt := by omega
            refine lv_icmp_ne (tgt := 90) S.x S.b d_Exp_hand_62 (by decide) (fun c52 => ?_) (fun c52 => ?_)
            · have nc52 : ¬ p0.toInt = z51.toInt := mt (i_eq (x := p0) (y := z51)).mpr c52
              have hw : pw D A s.heap _ _ [wd_Exp cs he re eo ef ea eg, wd_Tok cs (re 0) rt ot tf ta tg, wd_Prg cs (re 2) rp (fun k => if k = 2 then of else none) fp (fun _ _ => 0) (fun _ _ => none), [((rp 1), .inl (cs 0, cn, .inl cd))], P, wd_Opd cs hx (fun _ => 0) (fun k => if k = 4 then (some q33) else none) fx (fun _ _ => 0) (fun _ _ => none)] := hw.sub [0, 1, 2, 3, 5, 4] rfl rfl
              exact J90 tf fp cd _ _ ls (show CurOk (tf 10) (tf 13) (tf 14) (tf 15) (tf 17) (ta 0) from ⟨⟨by first | exact o1 | omega, by first | exact o2 | omega⟩, ⟨by first | exact o3 | omega, by first | exact o4 | omega⟩, ⟨by first | exact o5 | omega, by first | exact o6 | omega⟩, by first | exact o7 | omega, by omega, last_eq hlast (rfl)⟩) (show (tf 10).toInt = (tf 10).toInt from rfl) (show (tf 13).toInt = (tf 13).toInt from rfl) (show (tf 14).toInt = (tf 14).toInt from rfl) (show (tf 15).toInt = (tf 15).toInt from rfl) (show Prel cn (fp 3) cd (fp 3) cd from hrel) (show (fp 3).toInt ≤ (fp 3).toInt + 4 from by first | exact oz_4550f3b49c | omega) (show K_ex_hand_90 cn P (some q33) fx p0 tf fp cd tf fp cd from (fun y_f0 y_f1 y_f2 k hE => Exists.intro (k + 1) (Or.inl ⟨rfl, Or.inr ⟨nc14, Or.inl ⟨nc28, Or.inr ⟨nc30, Or.inr ⟨q33, rfl, Or.inr ⟨nc35, v49, e50, z51, ez51, Or.inl ⟨nc52, hE⟩⟩⟩⟩⟩⟩⟩))) hw (lv_sub hl [1, 2, 3] rfl)
            · have nc52 : p0.toInt = z51.toInt := (i_eq (x := p0) (y := z51)).mp c52
              refine lv_aload_n S.x S.b d_Exp_hand_65 rfl (lv_at hl 1 rfl) ?_
              refine px_get S k_Exp hT hw 0 0 2 (v := .ref (re 2)) rfl rfl rfl (by decide) m2_133 d_Exp_hand_66 ?_
              refine lv_bipush (v := 11) S.x S.b d_Exp_hand_69 (by decide) ?_
              refine lv_aload_n S.x S.b d_Exp_hand_71 rfl (lv_at hl 0 rfl) ?_
              obtain ⟨j54, s55, hj56⟩ := (show Sy P (some q33) by first | assumption | exact Fy.sy (by assumption)).at
              refine px_get S k_Sym hT hw 5 j54 2 (v := .int (s55 2)) rfl hj56 rfl (by decide) m1_213 d_Exp_hand_72 ?_
              refine lv_aload_n S.x S.b d_Exp_hand_75 rfl (lv_at hl 0 rfl) ?_
              refine px_get S k_Sym hT hw 5 j54 3 (v := .int (s55 3)) rfl hj56 rfl (by decide) m1_216 d_Exp_hand_76 ?_
              refine lv_aload_n S.x S.b d_Exp_hand_79 rfl (lv_at hl 0 rfl) ?_
              refine px_get S k_Sym hT hw 5 j54 4 (v := .int (s55 4)) rfl hj56 rfl (by decide) m1_219 d_Exp_hand_80 ?_
              have hw : pw D A s.heap _ _ [wd_Exp cs he re eo ef ea eg, wd_Tok cs (re 0) rt ot tf ta tg, wd_Opd cs hx (fun _ => 0) (fun k => if k = 4 then (some q33) else none) fx (fun _ _ => 0) (fun _ _ => none), P, wd_Prg cs (re 2) rp (fun k => if k = 2 then of else none) fp (fun _ _ => 0) (fun _ _ => none), [((rp 1), .inl (cs 0, cn, .inl cd))]] := hw.sub [0, 1, 4, 5, 2, 3] rfl rfl
              refine px_calli (pr := [wd_Exp cs he re eo ef ea eg, wd_Tok cs (re 0) rt ot tf ta tg, wd_Opd cs hx (fun _ => 0) (fun k => if k = 4 then (some q33) else none) fx (fun _ _ => 0) (fun _ _ => none), P]) (px_runV (As := [.int 11, .int (s55 2), .int (s55 3), .int (s55 4)]) (rest := []) S (c_pe_emit l D cs (re 2) rp of cn fp cd 11 (s55 2) (s55 3) (s55 4)  (show cn % 4 = 0 from by first | exact g0 | omega) (show cn ≤ 100000 from by first | exact g1 | omega) hrel.1 (jop_low (by decide)) _) hT (pr := [wd_Exp cs he re eo ef ea eg, wd_Tok cs (re 0) rt ot tf ta tg, wd_Opd cs hx (fun _ => 0) (fun k => if k = 4 then (some q33) else none) fx (fun _ _ => 0) (fun _ _ => none), P]) (pcs := [wd_Prg cs (re 2) rp (fun k => if k = 2 then of else none) fp (fun _ _ => 0) (fun _ _ => none), [((rp 1), .inl (cs 0, cn, .inl cd))]]) hw px_X.tt (px_recv hT hw 4 0 rfl rfl rfl) m4_181 m4_178 m4_179 m4_180 m1_16 q_Prg_emit ⟨Nat.le_of_ble_eq_true rfl, Nat.le_of_ble_eq_true rfl⟩ hl.1 rfl (Nat.le_of_ble_eq_true rfl) d_Exp_hand_83 ⟨Nat.le_of_ble_eq_true rfl, Nat.le_of_ble_eq_true rfl⟩) hw hA (fun v62 p61 H locs hp61 hw => ?_)
              obtain ⟨fp59, cd60, rfl, hv_v62, hem, hwx, hsz, k0fp59, k4fp59, k5fp59, hR_fp59⟩ := hp61
              have tv_v62 : v62.toInt = (fp 3).toInt := by rw [hv_v62]
              have pm63 := hem.2.1
              have hrel := hrel.tr hem
              have pz64 := hrel.nm
              have hsl_fp59 : (fp59 3).toInt ≤ (fp 3).toInt + 4 := by omega
              clear hsz
              have hw : pw D A s.heap H locs [wd_Exp cs he re eo ef ea eg, wd_Tok cs (re 0) rt ot tf ta tg, wd_Opd cs hx (fun _ => 0) (fun k => if k = 4 then (some q33) else none) fx (fun _ _ => 0) (fun _ _ => none), P, wd_Prg cs (re 2) rp (fun k => if k = 2 then of else none) fp59 (fun _ _ => 0) (fun _ _ => none), [((rp 1), .inl (cs 0, cn, .inl cd60))]] := hw
              have lv62 := Int32.le_toInt v62
              have uv62 := Int32.toInt_lt v62
              refine lv_pop S.x S.b d_Exp_hand_86 rfl ?_
              refine lv_goto (tgt := 116) S.x S.b d_Exp_hand_87 (by decide) ?_
              have hw : pw D A s.heap _ _ [wd_Exp cs he re eo ef ea eg, wd_Tok cs (re 0) rt ot tf ta tg, wd_Prg cs (re 2) rp (fun k => if k = 2 then of else none) fp59 (fun _ _ => 0) (fun _ _ => none), [((rp 1), .inl (cs 0, cn, .inl cd60))], P, wd_Opd cs hx (fun _ => 0) (fun k => if k = 4 then (some q33) else none) fx (fun _ _ => 0) (fun _ _ => none)] := hw.sub [0, 1, 4, 5, 3, 2] rfl rfl
              exact J116 tf fp59 cd60 _ _ ls (show CurOk (tf 10) (tf 13) (tf 14) (tf 15) (tf 17) (ta 0) from ⟨⟨by first | exact o1 | omega, by first | exact o2 | omega⟩, ⟨by first | exact o3 | omega, by first | exact o4 | omega⟩, ⟨by first | exact o5 | omega, by first | exact o6 | omega⟩, by first | exact o7 | omega, by omega, last_eq hlast (rfl)⟩) (show (tf 10).toInt = (tf 10).toInt from rfl) (show (tf 13).toInt = (tf 13).toInt from rfl) (show (tf 14).toInt = (tf 14).toInt from rfl) (show (tf 15).toInt = (tf 15).toInt from rfl) (show Prel cn (fp 3) cd (fp59 3) cd60 from hrel) (show (fp59 3).toInt ≤ (fp 3).toInt + 4 from by first | exact hsl_fp59 | omega) (show K_ex_hand_116 cn P (some q33) fx p0 tf fp cd tf fp59 cd60 from (fun y_f0 y_f1 y_f2 k hE => Exists.intro (k + 1) (Or.inl ⟨rfl, Or.inr ⟨nc14, Or.inl ⟨nc28, Or.inr ⟨nc30, Or.inr ⟨q33, rfl, Or.inr ⟨nc35, v49, e50, z51, ez51, Or.inr ⟨nc52, j54, s55, hj56, fp59, cd60, v62, hR_fp59, hE⟩⟩⟩⟩⟩⟩⟩))) hw (lv_sub hl [1, 2, 3] rfl)
    · have nc28 : p0.toInt = (2 : Int) := (i_eq (x := p0) (y := 2)).mp c28
      refine lv_aload_n S.x S.b d_Exp_hand_22 rfl (lv_at hl 1 rfl) ?_
      refine px_get S k_Exp hT hw 0 0 2 (v := .ref (re 2)) rfl rfl rfl (by decide) m2_133 d_Exp_hand_23 ?_
      refine lv_bipush (v := 10) S.x S.b d_Exp_hand_26 (by decide) ?_
      refine lv_iconst (v := 0) S.x S.b d_Exp_hand_28 (by decide) ?_
      refine lv_iconst (v := 0) S.x S.b d_Exp_hand_29 (by decide) ?_
      refine lv_iconst (v := 0) S.x S.b d_Exp_hand_30 (by decide) ?_
      have hw : pw D A s.heap _ _ [wd_Exp cs he re eo ef ea eg, wd_Tok cs (re 0) rt ot tf ta tg, P, wd_Opd cs hx (fun _ => 0) (fun k => if k = 4 then ox else none) fx (fun _ _ => 0) (fun _ _ => none), wd_Prg cs (re 2) rp (fun k => if k = 2 then of else none) fp (fun _ _ => 0) (fun _ _ => none), [((rp 1), .inl (cs 0, cn, .inl cd))]] := hw.sub [0, 1, 4, 5, 2, 3] rfl rfl
      refine px_calli (pr := [wd_Exp cs he re eo ef ea eg, wd_Tok cs (re 0) rt ot tf ta tg, P, wd_Opd cs hx (fun _ => 0) (fun k => if k = 4 then ox else none) fx (fun _ _ => 0) (fun _ _ => none)]) (px_runV (As := [.int 10, .int 0, .int 0, .int 0]) (rest := []) S (c_pe_emit l D cs (re 2) rp of cn fp cd 10 0 0 0  (show cn % 4 = 0 from by first | exact g0 | omega) (show cn ≤ 100000 from by first | exact g1 | omega) hrel.1 (jop_low (by decide)) _) hT (pr := [wd_Exp cs he re eo ef ea eg, wd_Tok cs (re 0) rt ot tf ta tg, P, wd_Opd cs hx (fun _ => 0) (fun k => if k = 4 then ox else none) fx (fun _ _ => 0) (fun _ _ => none)]) (pcs := [wd_Prg cs (re 2) rp (fun k => if k = 2 then of else none) fp (fun _ _ => 0) (fun _ _ => none), [((rp 1), .inl (cs 0, cn, .inl cd))]]) hw px_X.tt (px_recv hT hw 4 0 rfl rfl rfl) m4_181 m4_178 m4_179 m4_180 m1_16 q_Prg_emit ⟨Nat.le_of_ble_eq_true rfl, Nat.le_of_ble_eq_true rfl⟩ hl.1 rfl (Nat.le_of_ble_eq_true rfl) d_Exp_hand_31 ⟨Nat.le_of_ble_eq_true rfl, Nat.le_of_ble_eq_true rfl⟩) hw hA (fun v70 p69 H locs hp69 hw => ?_)
      obtain ⟨fp67, cd68, rfl, hv_v70, hem, hwx, hsz, k0fp67, k4fp67, k5fp67, hR_fp67⟩ := hp69
      have tv_v70 : v70.toInt = (fp 3).toInt := by rw [hv_v70]
      have pm71 := hem.2.1
      have hrel := hrel.tr hem
      have pz72 := hrel.nm
      have hsl_fp67 : (fp67 3).toInt ≤ (fp 3).toInt + 4 := by omega
      clear hsz
      have hw : pw D A s.heap H locs [wd_Exp cs he re eo ef ea eg, wd_Tok cs (re 0) rt ot tf ta tg, P, wd_Opd cs hx (fun _ => 0) (fun k => if k = 4 then ox else none) fx (fun _ _ => 0) (fun _ _ => none), wd_Prg cs (re 2) rp (fun k => if k = 2 then of else none) fp67 (fun _ _ => 0) (fun _ _ => none), [((rp 1), .inl (cs 0, cn, .inl cd68))]] := hw
      have lv70 := Int32.le_toInt v70
      have uv70 := Int32.toInt_lt v70
      refine lv_pop S.x S.b d_Exp_hand_34 rfl ?_
      refine lv_goto (tgt := 116) S.x S.b d_Exp_hand_35 (by decide) ?_
      have hw : pw D A s.heap _ _ [wd_Exp cs he re eo ef ea eg, wd_Tok cs (re 0) rt ot tf ta tg, wd_Prg cs (re 2) rp (fun k => if k = 2 then of else none) fp67 (fun _ _ => 0) (fun _ _ => none), [((rp 1), .inl (cs 0, cn, .inl cd68))], P, wd_Opd cs hx (fun _ => 0) (fun k => if k = 4 then ox else none) fx (fun _ _ => 0) (fun _ _ => none)] := hw.sub [0, 1, 4, 5, 2, 3] rfl rfl
      exact J116 tf fp67 cd68 _ _ ls (show CurOk (tf 10) (tf 13) (tf 14) (tf 15) (tf 17) (ta 0) from ⟨⟨by first | exact o1 | omega, by first | exact o2 | omega⟩, ⟨by first | exact o3 | omega, by first | exact o4 | omega⟩, ⟨by first | exact o5 | omega, by first | exact o6 | omega⟩, by first | exact o7 | omega, by omega, last_eq hlast (rfl)⟩) (show (tf 10).toInt = (tf 10).toInt from rfl) (show (tf 13).toInt = (tf 13).toInt from rfl) (show (tf 14).toInt = (tf 14).toInt from rfl) (show (tf 15).toInt = (tf 15).toInt from rfl) (show Prel cn (fp 3) cd (fp67 3) cd68 from hrel) (show (fp67 3).toInt ≤ (fp 3).toInt + 4 from by first | exact hsl_fp67 | omega) (show K_ex_hand_116 cn P ox fx p0 tf fp cd tf fp67 cd68 from (fun y_f0 y_f1 y_f2 k hE => Exists.intro (k + 1) (Or.inl ⟨rfl, Or.inr ⟨nc14, Or.inr ⟨nc28, fp67, cd68, v70, hR_fp67, hE⟩⟩⟩))) hw (lv_sub hl [1, 2, 3] rfl)
abbrev b_Exp_conclude : ByteArray := prog_3_method_26_code
def y_Exp_conclude : MethodName := ⟨"HomeSystem$Expressions", "conclude", "(LHomeSystem$Operand;LHomeSystem$Symbol;I)V"⟩
theorem d_Exp_conclude_0 : decode b_Exp_conclude 0 = .ok (.aload_n 1, 1) := by decide +kernel
theorem d_Exp_conclude_1 : decode b_Exp_conclude 1 = .ok (.aload_n 1, 1) := by decide +kernel
theorem d_Exp_conclude_2 : decode b_Exp_conclude 2 = .ok (.getfield 82, 3) := by decide +kernel
theorem d_Exp_conclude_5 : decode b_Exp_conclude 5 = .ok (.putfield 88, 3) := by decide +kernel
theorem d_Exp_conclude_8 : decode b_Exp_conclude 8 = .ok (.aload_n 2, 1) := by decide +kernel
theorem d_Exp_conclude_9 : decode b_Exp_conclude 9 = .ok (.ifnonnull 16, 3) := by decide +kernel
theorem d_Exp_conclude_12 : decode b_Exp_conclude 12 = .ok (.aload_n 0, 1) := by decide +kernel
theorem d_Exp_conclude_13 : decode b_Exp_conclude 13 = .ok (.getfield 9, 3) := by decide +kernel
theorem d_Exp_conclude_16 : decode b_Exp_conclude 16 = .ok (.iconst 2, 1) := by decide +kernel
theorem d_Exp_conclude_17 : decode b_Exp_conclude 17 = .ok (.aload_n 1, 1) := by decide +kernel
theorem d_Exp_conclude_18 : decode b_Exp_conclude 18 = .ok (.getfield 82, 3) := by decide +kernel
theorem d_Exp_conclude_21 : decode b_Exp_conclude 21 = .ok (.invokevirtual 85, 3) := by decide +kernel
theorem d_Exp_conclude_24 : decode b_Exp_conclude 24 = .ok (.return_, 1) := by decide +kernel
theorem d_Exp_conclude_25 : decode b_Exp_conclude 25 = .ok (.iload_n 3, 1) := by decide +kernel
theorem d_Exp_conclude_26 : decode b_Exp_conclude 26 = .ok (.aload_n 2, 1) := by decide +kernel
theorem d_Exp_conclude_27 : decode b_Exp_conclude 27 = .ok (.getfield 103, 3) := by decide +kernel
theorem d_Exp_conclude_30 : decode b_Exp_conclude 30 = .ok (.if_icmp .eq 15, 3) := by decide +kernel
theorem d_Exp_conclude_33 : decode b_Exp_conclude 33 = .ok (.aload_n 0, 1) := by decide +kernel
theorem d_Exp_conclude_34 : decode b_Exp_conclude 34 = .ok (.getfield 9, 3) := by decide +kernel
theorem d_Exp_conclude_37 : decode b_Exp_conclude 37 = .ok (.iconst 4, 1) := by decide +kernel
theorem d_Exp_conclude_38 : decode b_Exp_conclude 38 = .ok (.aload_n 1, 1) := by decide +kernel
theorem d_Exp_conclude_39 : decode b_Exp_conclude 39 = .ok (.getfield 82, 3) := by decide +kernel
theorem d_Exp_conclude_42 : decode b_Exp_conclude 42 = .ok (.invokevirtual 85, 3) := by decide +kernel
theorem d_Exp_conclude_45 : decode b_Exp_conclude 45 = .ok (.aload_n 1, 1) := by decide +kernel
theorem d_Exp_conclude_46 : decode b_Exp_conclude 46 = .ok (.aload_n 2, 1) := by decide +kernel
theorem d_Exp_conclude_47 : decode b_Exp_conclude 47 = .ok (.getfield 239, 3) := by decide +kernel
theorem d_Exp_conclude_50 : decode b_Exp_conclude 50 = .ok (.iconst 3, 1) := by decide +kernel
theorem d_Exp_conclude_51 : decode b_Exp_conclude 51 = .ok (.if_icmp .ne 7, 3) := by decide +kernel
theorem d_Exp_conclude_54 : decode b_Exp_conclude 54 = .ok (.iconst 3, 1) := by decide +kernel
theorem d_Exp_conclude_55 : decode b_Exp_conclude 55 = .ok (.goto 4, 3) := by decide +kernel
theorem d_Exp_conclude_58 : decode b_Exp_conclude 58 = .ok (.iconst 0, 1) := by decide +kernel
theorem d_Exp_conclude_59 : decode b_Exp_conclude 59 = .ok (.putfield 79, 3) := by decide +kernel
theorem d_Exp_conclude_62 : decode b_Exp_conclude 62 = .ok (.aload_n 2, 1) := by decide +kernel
theorem d_Exp_conclude_63 : decode b_Exp_conclude 63 = .ok (.getfield 216, 3) := by decide +kernel
theorem d_Exp_conclude_66 : decode b_Exp_conclude 66 = .ok (.istore 4, 2) := by decide +kernel
theorem d_Exp_conclude_68 : decode b_Exp_conclude 68 = .ok (.iload 4, 2) := by decide +kernel
theorem d_Exp_conclude_70 : decode b_Exp_conclude 70 = .ok (.ifCond .ne 19, 3) := by decide +kernel
theorem d_Exp_conclude_73 : decode b_Exp_conclude 73 = .ok (.aload_n 0, 1) := by decide +kernel
theorem d_Exp_conclude_74 : decode b_Exp_conclude 74 = .ok (.getfield 19, 3) := by decide +kernel
theorem d_Exp_conclude_77 : decode b_Exp_conclude 77 = .ok (.bipush 12, 2) := by decide +kernel
theorem d_Exp_conclude_79 : decode b_Exp_conclude 79 = .ok (.iconst 0, 1) := by decide +kernel
theorem d_Exp_conclude_80 : decode b_Exp_conclude 80 = .ok (.iconst 0, 1) := by decide +kernel
theorem d_Exp_conclude_81 : decode b_Exp_conclude 81 = .ok (.iconst 0, 1) := by decide +kernel
theorem d_Exp_conclude_82 : decode b_Exp_conclude 82 = .ok (.invokevirtual 106, 3) := by decide +kernel
theorem d_Exp_conclude_85 : decode b_Exp_conclude 85 = .ok (.pop, 1) := by decide +kernel
theorem d_Exp_conclude_86 : decode b_Exp_conclude 86 = .ok (.goto 44, 3) := by decide +kernel
theorem d_Exp_conclude_89 : decode b_Exp_conclude 89 = .ok (.iload 4, 2) := by decide +kernel
theorem d_Exp_conclude_91 : decode b_Exp_conclude 91 = .ok (.bipush 10, 2) := by decide +kernel
theorem d_Exp_conclude_93 : decode b_Exp_conclude 93 = .ok (.if_icmp .ge 20, 3) := by decide +kernel
theorem d_Exp_conclude_96 : decode b_Exp_conclude 96 = .ok (.aload_n 0, 1) := by decide +kernel
theorem d_Exp_conclude_97 : decode b_Exp_conclude 97 = .ok (.getfield 19, 3) := by decide +kernel
theorem d_Exp_conclude_100 : decode b_Exp_conclude 100 = .ok (.bipush 23, 2) := by decide +kernel
theorem d_Exp_conclude_102 : decode b_Exp_conclude 102 = .ok (.iload 4, 2) := by decide +kernel
theorem d_Exp_conclude_104 : decode b_Exp_conclude 104 = .ok (.iconst 0, 1) := by decide +kernel
theorem d_Exp_conclude_105 : decode b_Exp_conclude 105 = .ok (.iconst 0, 1) := by decide +kernel
theorem d_Exp_conclude_106 : decode b_Exp_conclude 106 = .ok (.invokevirtual 106, 3) := by decide +kernel
theorem d_Exp_conclude_109 : decode b_Exp_conclude 109 = .ok (.pop, 1) := by decide +kernel
theorem d_Exp_conclude_110 : decode b_Exp_conclude 110 = .ok (.goto 20, 3) := by decide +kernel
theorem d_Exp_conclude_113 : decode b_Exp_conclude 113 = .ok (.aload_n 0, 1) := by decide +kernel
theorem d_Exp_conclude_114 : decode b_Exp_conclude 114 = .ok (.getfield 19, 3) := by decide +kernel
theorem d_Exp_conclude_117 : decode b_Exp_conclude 117 = .ok (.bipush 22, 2) := by decide +kernel
theorem d_Exp_conclude_119 : decode b_Exp_conclude 119 = .ok (.iload 4, 2) := by decide +kernel
theorem d_Exp_conclude_121 : decode b_Exp_conclude 121 = .ok (.bipush 10, 2) := by decide +kernel
theorem d_Exp_conclude_123 : decode b_Exp_conclude 123 = .ok (.isub, 1) := by decide +kernel
theorem d_Exp_conclude_124 : decode b_Exp_conclude 124 = .ok (.iconst 0, 1) := by decide +kernel
theorem d_Exp_conclude_125 : decode b_Exp_conclude 125 = .ok (.iconst 0, 1) := by decide +kernel
theorem d_Exp_conclude_126 : decode b_Exp_conclude 126 = .ok (.invokevirtual 106, 3) := by decide +kernel
theorem d_Exp_conclude_129 : decode b_Exp_conclude 129 = .ok (.pop, 1) := by decide +kernel
theorem d_Exp_conclude_130 : decode b_Exp_conclude 130 = .ok (.return_, 1) := by decide +kernel
theorem q_Exp_conclude : px_y y_Exp_conclude 3 := by unfold px_y; decide +kernel
set_option maxHeartbeats 4000000 in
set_option maxRecDepth 100000 in
theorem c_ex_conclude_n (l : Launch) (D : va_G) (cs : Nat → ClassId) (he : Nat) (re : Nat → Nat) (eo : Nat → Option Nat) (ef : Nat → Int32) (ea : Nat → Nat → Int32) (eg : Nat → Nat → Option Nat) (rt : Nat → Nat) (ot : Nat → Option Nat) (ta : Nat → Nat → Int32) (tg : Nat → Nat → Option Nat) (tf : Nat → Int32) (rp : Nat → Nat) (of : Option Nat) (cn : Nat) (fp : Nat → Int32) (cd : Nat → Int32) (P : va_W) (hx : Nat) (ox : Option Nat) (fx : Nat → Int32) (p0 : Int32)  (hinv0 : CurOk (tf 10) (tf 13) (tf 14) (tf 15) (tf 17) (ta 0)) (g0 : cn % 4 = 0) (g1 : cn ≤ 100000) (g2 : 0 ≤ (fx 0).toInt) (hpk : Pok cn (fp 3) cd) : MetV l y_Exp_conclude b_Exp_conclude 5 D cs 1 40 (0) (0) [.ref he, .ref hx, .null, .int p0] [wd_Exp cs he re eo ef ea eg, wd_Tok cs (re 0) rt ot tf ta tg, wd_Prg cs (re 2) rp (fun k => if k = 2 then of else none) fp (fun _ _ => 0) (fun _ _ => none), [((rp 1), .inl (cs 0, cn, .inl cd))], P, wd_Opd cs hx (fun _ => 0) (fun k => if k = 4 then ox else none) fx (fun _ _ => 0) (fun _ _ => none)] (fun _ => True) (fun ps => ∃ (tf' : Nat → Int32) (fp' : Nat → Int32) (cd' : Nat → Int32) (fx' : Nat → Int32), (ps = [wd_Exp cs he re eo ef ea eg, wd_Tok cs (re 0) rt ot tf' ta tg, wd_Prg cs (re 2) rp (fun k => if k = 2 then of else none) fp' (fun _ _ => 0) (fun _ _ => none), [((rp 1), .inl (cs 0, cn, .inl cd'))], P, wd_Opd cs hx (fun _ => 0) (fun k => if k = 4 then ox else none) fx' (fun _ _ => 0) (fun _ _ => none)]) ∧ (CurOk (tf' 10) (tf' 13) (tf' 14) (tf' 15) (tf' 17) (ta 0)) ∧ ((tf' 10).toInt = (tf 10).toInt) ∧ ((tf' 13).toInt = (tf 13).toInt) ∧ ((tf' 14).toInt = (tf 14).toInt) ∧ ((tf' 15).toInt = (tf 15).toInt) ∧ ((fx' 0).toInt = (fx 0).toInt) ∧ ((fx' 5).toInt = (fx 5).toInt) ∧ ((fx' 3).toInt = (fx 0).toInt) ∧ (Prel cn (fp 3) cd (fp' 3) cd') ∧ ((fp' 3).toInt ≤ (fp 3).toInt + 4) ∧ (R_ex_conclude_n p0 tf fp cd fx tf' fp' cd' fx')) := by
  refine px_enter (by decide) (Nat.le_of_ble_eq_true rfl) ?_
  intro p e s m below meth c A ls hAe S hr hlk hnm hA hT hX hw hl
  have hl : lv_has ls 5 [(0, .ref he), (1, .ref hx), (2, .null), (3, .int p0)] := hl
  have lp0 := Int32.le_toInt p0
  have up0 := Int32.toInt_lt p0
  have cst0 : (0 : Int32).toInt = 0 := rfl
  have cst2 : (2 : Int32).toInt = 2 := rfl
  have cst3 : (3 : Int32).toInt = 3 := rfl
  have cst4 : (4 : Int32).toInt = 4 := rfl
  have cst10 : (10 : Int32).toInt = 10 := rfl
  have cst12 : (12 : Int32).toInt = 12 := rfl
  have cst22 : (22 : Int32).toInt = 22 := rfl
  have cst23 : (23 : Int32).toInt = 23 := rfl
  obtain ⟨⟨o1, o2⟩, ⟨o3, o4⟩, ⟨o5, o6⟩, o7, o8, hlast⟩ := hinv0
  have hrel := Prel.rf hpk
  have pz0 := hrel.nm
  refine lv_aload_n S.x S.b d_Exp_conclude_0 rfl (lv_at hl 1 rfl) ?_
  refine lv_aload_n S.x S.b d_Exp_conclude_1 rfl (lv_at hl 1 rfl) ?_
  refine px_get S k_Opd hT hw 5 0 0 (v := .int (fx 0)) rfl rfl rfl (by decide) m4_218 d_Exp_conclude_2 ?_
  refine px_put S k_Opd hT hw 5 0 3 rfl rfl (by decide) m4_225 rfl rfl rfl (Nat.le_of_ble_eq_true rfl) d_Exp_conclude_5 (w' := wd_Opd cs hx (fun _ => 0) (fun k => if k = 4 then ox else none) (upd fx 3 (fx 0)) (fun _ _ => 0) (fun _ _ => none)) (ps' := [wd_Exp cs he re eo ef ea eg, wd_Tok cs (re 0) rt ot tf ta tg, wd_Prg cs (re 2) rp (fun k => if k = 2 then of else none) fp (fun _ _ => 0) (fun _ _ => none), [((rp 1), .inl (cs 0, cn, .inl cd))], P, wd_Opd cs hx (fun _ => 0) (fun k => if k = 4 then ox else none) (upd fx 3 (fx 0)) (fun _ _ => 0) (fun _ _ => none)]) rfl rfl (fun H locs hw => ?_)
  refine lq_aload_n (x := none) S.x S.b d_Exp_conclude_8 rfl (lv_at hl 2 rfl) ?_
  refine lv_ifnonnullN S.x S.b d_Exp_conclude_9 ?_
  refine lv_aload_n S.x S.b d_Exp_conclude_12 rfl (lv_at hl 0 rfl) ?_
  refine px_get S k_Exp hT hw 0 0 0 (v := .ref (re 0)) rfl rfl rfl (by decide) m2_131 d_Exp_conclude_13 ?_
  refine lv_iconst (v := 2) S.x S.b d_Exp_conclude_16 (by decide) ?_
  refine lv_aload_n S.x S.b d_Exp_conclude_17 rfl (lv_at hl 1 rfl) ?_
  refine px_get S k_Opd hT hw 5 0 0 (v := .int (fx 0)) rfl rfl rfl (by decide) m4_218 d_Exp_conclude_18 ?_
  have hw : pw D A s.heap _ _ [wd_Exp cs he re eo ef ea eg, wd_Prg cs (re 2) rp (fun k => if k = 2 then of else none) fp (fun _ _ => 0) (fun _ _ => none), [((rp 1), .inl (cs 0, cn, .inl cd))], P, wd_Opd cs hx (fun _ => 0) (fun k => if k = 4 then ox else none) (upd fx 3 (fx 0)) (fun _ _ => 0) (fun _ _ => none), wd_Tok cs (re 0) rt ot tf ta tg] := hw.sub [0, 2, 3, 4, 5, 1] rfl rfl
  refine px_callv (pr := [wd_Exp cs he re eo ef ea eg, wd_Prg cs (re 2) rp (fun k => if k = 2 then of else none) fp (fun _ _ => 0) (fun _ _ => none), [((rp 1), .inl (cs 0, cn, .inl cd))], P, wd_Opd cs hx (fun _ => 0) (fun k => if k = 4 then ox else none) (upd fx 3 (fx 0)) (fun _ _ => 0) (fun _ _ => none)]) (px_runV (As := [.int 2, .int (fx 0)]) (rest := []) S (c_tk_blame l D cs (re 0) rt ot ta tg tf 2 (fx 0)  (show CurOk (tf 10) (tf 13) (tf 14) (tf 15) (tf 17) (ta 0) from ⟨⟨by first | exact o1 | omega, by first | exact o2 | omega⟩, ⟨by first | exact o3 | omega, by first | exact o4 | omega⟩, ⟨by first | exact o5 | omega, by first | exact o6 | omega⟩, by first | exact o7 | omega, by omega, last_eq hlast (rfl)⟩) (show 0 ≤ (fx 0).toInt from by first | exact g2 | omega) _) hT (pr := [wd_Exp cs he re eo ef ea eg, wd_Prg cs (re 2) rp (fun k => if k = 2 then of else none) fp (fun _ _ => 0) (fun _ _ => none), [((rp 1), .inl (cs 0, cn, .inl cd))], P, wd_Opd cs hx (fun _ => 0) (fun k => if k = 4 then ox else none) (upd fx 3 (fx 0)) (fun _ _ => 0) (fun _ _ => none)]) (pcs := [wd_Tok cs (re 0) rt ot tf ta tg]) hw px_X.tt (px_recv hT hw 5 0 rfl rfl rfl) m4_173 m4_170 m4_171 m4_172 m1_2 q_Tok_blame ⟨Nat.le_of_ble_eq_true rfl, Nat.le_of_ble_eq_true rfl⟩ hl.1 rfl (Nat.le_of_ble_eq_true rfl) d_Exp_conclude_21 ⟨Nat.le_of_ble_eq_true rfl, Nat.le_of_ble_eq_true rfl⟩) hw hA (fun p2 H locs hp2 hw => ?_)
  obtain ⟨tf1, rfl, h9, e4, e5, e6, e7, e8⟩ := hp2
  obtain ⟨⟨o1, o2⟩, ⟨o3, o4⟩, ⟨o5, o6⟩, o7, o8, hlast⟩ := h9
  have e4 : (tf1 10).toInt = (tf 10).toInt := e4
  have e5 : (tf1 14).toInt = (tf 14).toInt := e5
  have e6 : (tf1 15).toInt = (tf 15).toInt := e6
  have e7 : (tf1 13).toInt = (tf 13).toInt := e7
  have e8 : R_tk_blame (2 : Int32) (fx 0) tf tf1 := e8
  have hw : pw D A s.heap H locs [wd_Exp cs he re eo ef ea eg, wd_Prg cs (re 2) rp (fun k => if k = 2 then of else none) fp (fun _ _ => 0) (fun _ _ => none), [((rp 1), .inl (cs 0, cn, .inl cd))], P, wd_Opd cs hx (fun _ => 0) (fun k => if k = 4 then ox else none) (upd fx 3 (fx 0)) (fun _ _ => 0) (fun _ _ => none), wd_Tok cs (re 0) rt ot tf1 ta tg] := hw
  have hw : pw D A s.heap _ _ [wd_Exp cs he re eo ef ea eg, wd_Tok cs (re 0) rt ot tf1 ta tg, wd_Prg cs (re 2) rp (fun k => if k = 2 then of else none) fp (fun _ _ => 0) (fun _ _ => none), [((rp 1), .inl (cs 0, cn, .inl cd))], P, wd_Opd cs hx (fun _ => 0) (fun k => if k = 4 then ox else none) (upd fx 3 (fx 0)) (fun _ _ => 0) (fun _ _ => none)] := hw.sub [0, 5, 1, 2, 3, 4] rfl rfl
  exact px_vret S hr hlk hAe hw (Nat.le_of_ble_eq_true rfl) (Nat.le_of_ble_eq_true rfl) (⟨tf1, fp, cd, (upd fx 3 (fx 0)), rfl, (show CurOk (tf1 10) (tf1 13) (tf1 14) (tf1 15) (tf1 17) (ta 0) from ⟨⟨by first | exact o1 | omega, by first | exact o2 | omega⟩, ⟨by first | exact o3 | omega, by first | exact o4 | omega⟩, ⟨by first | exact o5 | omega, by first | exact o6 | omega⟩, by first | exact o7 | omega, by omega, last_eq hlast (rfl)⟩), (show (tf1 10).toInt = (tf 10).toInt from by first | exact e4 | omega), (show (tf1 13).toInt = (tf 13).toInt from by first | exact e7 | omega), (show (tf1 14).toInt = (tf 14).toInt from by first | exact e5 | omega), (show (tf1 15).toInt = (tf 15).toInt from by first | exact e6 | omega), (show (fx 0).toInt = (fx 0).toInt from rfl), (show (fx 5).toInt = (fx 5).toInt from rfl), (show (fx 0).toInt = (fx 0).toInt from rfl), (show Prel cn (fp 3) cd (fp 3) cd from hrel), (show (fp 3).toInt ≤ (fp 3).toInt + 4 from by first | exact oz_4550f3b49c | omega), (show R_ex_conclude_n p0 tf fp cd fx tf1 fp cd (upd fx 3 (fx 0)) from (Or.inl ⟨tf1, e8, rfl, rfl, rfl, rfl⟩))⟩) d_Exp_conclude_24
set_option maxHeartbeats 4000000 in
set_option maxRecDepth 100000 in
theorem c_ex_conclude_r (l : Launch) (D : va_G) (cs : Nat → ClassId) (he : Nat) (re : Nat → Nat) (eo : Nat → Option Nat) (ef : Nat → Int32) (ea : Nat → Nat → Int32) (eg : Nat → Nat → Option Nat) (rt : Nat → Nat) (ot : Nat → Option Nat) (ta : Nat → Nat → Int32) (tg : Nat → Nat → Option Nat) (tf : Nat → Int32) (rp : Nat → Nat) (of : Option Nat) (cn : Nat) (fp : Nat → Int32) (cd : Nat → Int32) (P : va_W) (hx : Nat) (ox : Option Nat) (fx : Nat → Int32) (p0 : Int32) (fa : Nat) (hinv0 : CurOk (tf 10) (tf 13) (tf 14) (tf 15) (tf 17) (ta 0)) (g0 : cn % 4 = 0) (g1 : cn ≤ 100000) (g2 : 0 ≤ (fx 0).toInt) (hpk : Pok cn (fp 3) cd) (hsy : Fy P (some fa)) : MetV l y_Exp_conclude b_Exp_conclude 5 D cs 1 40 (0) (0) [.ref he, .ref hx, .ref fa, .int p0] [wd_Exp cs he re eo ef ea eg, wd_Tok cs (re 0) rt ot tf ta tg, wd_Prg cs (re 2) rp (fun k => if k = 2 then of else none) fp (fun _ _ => 0) (fun _ _ => none), [((rp 1), .inl (cs 0, cn, .inl cd))], P, wd_Opd cs hx (fun _ => 0) (fun k => if k = 4 then ox else none) fx (fun _ _ => 0) (fun _ _ => none)] (fun _ => True) (fun ps => ∃ (tf' : Nat → Int32) (fp' : Nat → Int32) (cd' : Nat → Int32) (fx' : Nat → Int32), (ps = [wd_Exp cs he re eo ef ea eg, wd_Tok cs (re 0) rt ot tf' ta tg, wd_Prg cs (re 2) rp (fun k => if k = 2 then of else none) fp' (fun _ _ => 0) (fun _ _ => none), [((rp 1), .inl (cs 0, cn, .inl cd'))], P, wd_Opd cs hx (fun _ => 0) (fun k => if k = 4 then ox else none) fx' (fun _ _ => 0) (fun _ _ => none)]) ∧ (CurOk (tf' 10) (tf' 13) (tf' 14) (tf' 15) (tf' 17) (ta 0)) ∧ ((tf' 10).toInt = (tf 10).toInt) ∧ ((tf' 13).toInt = (tf 13).toInt) ∧ ((tf' 14).toInt = (tf 14).toInt) ∧ ((tf' 15).toInt = (tf 15).toInt) ∧ ((fx' 0).toInt = (fx 0).toInt) ∧ ((fx' 5).toInt = (fx 5).toInt) ∧ ((fx' 3).toInt = (fx 0).toInt) ∧ (Prel cn (fp 3) cd (fp' 3) cd') ∧ ((fp' 3).toInt ≤ (fp 3).toInt + 4) ∧ (R_ex_conclude_r cn P fa p0 tf fp cd fx tf' fp' cd' fx')) := by
  refine px_enter (by decide) (Nat.le_of_ble_eq_true rfl) ?_
  intro p e s m below meth c A ls hAe S hr hlk hnm hA hT hX hw hl
  have hl : lv_has ls 5 [(0, .ref he), (1, .ref hx), (2, .ref fa), (3, .int p0)] := hl
  have lp0 := Int32.le_toInt p0
  have up0 := Int32.toInt_lt p0
  have cst0 : (0 : Int32).toInt = 0 := rfl
  have cst2 : (2 : Int32).toInt = 2 := rfl
  have cst3 : (3 : Int32).toInt = 3 := rfl
  have cst4 : (4 : Int32).toInt = 4 := rfl
  have cst10 : (10 : Int32).toInt = 10 := rfl
  have cst12 : (12 : Int32).toInt = 12 := rfl
  have cst22 : (22 : Int32).toInt = 22 := rfl
  have cst23 : (23 : Int32).toInt = 23 := rfl
  obtain ⟨⟨o1, o2⟩, ⟨o3, o4⟩, ⟨o5, o6⟩, o7, o8, hlast⟩ := hinv0
  have hrel := Prel.rf hpk
  have pz0 := hrel.nm
  obtain ⟨jf, sf, hjf, hf0, hf1⟩ := hsy.at
  have J45 : ∀ (tf_45 : Nat → Int32) (fp_45 : Nat → Int32) (cd_45 : Nat → Int32) (fx_45 : Nat → Int32) (H : Heap) (locs : List Loc) (ls : Array Slot), (CurOk (tf_45 10) (tf_45 13) (tf_45 14) (tf_45 15) (tf_45 17) (ta 0)) → ((tf_45 10).toInt = (tf 10).toInt) → ((tf_45 13).toInt = (tf 13).toInt) → ((tf_45 14).toInt = (tf 14).toInt) → ((tf_45 15).toInt = (tf 15).toInt) → ((fx_45 0).toInt = (fx 0).toInt) → ((fx_45 5).toInt = (fx 5).toInt) → ((fx_45 3).toInt = (fx 0).toInt) → (Prel cn (fp 3) cd (fp_45 3) cd_45) → ((fp_45 3).toInt = (fp 3).toInt) → (K_ex_conclude_r_45 cn P fa p0 tf fp cd fx tf_45 fp_45 cd_45 fx_45) → pw D A s.heap H locs [wd_Exp cs he re eo ef ea eg, wd_Tok cs (re 0) rt ot tf_45 ta tg, wd_Prg cs (re 2) rp (fun k => if k = 2 then of else none) fp_45 (fun _ _ => 0) (fun _ _ => none), [((rp 1), .inl (cs 0, cn, .inl cd_45))], P, wd_Opd cs hx (fun _ => 0) (fun k => if k = 4 then ox else none) fx_45 (fun _ _ => 0) (fun _ _ => none)] → lv_has ls 5 [(0, .ref he), (1, .ref hx), (2, .ref fa), (3, .int p0)] → W p l e { frames := 1, cells := 0, slots := 0, locals := 40 } s m [.ref he, .ref hx, .ref fa, .int p0].toArray below meth c H locs 0 0 (MQ below (va_Qv (fun ps => ∃ (tf' : Nat → Int32) (fp' : Nat → Int32) (cd' : Nat → Int32) (fx' : Nat → Int32), (ps = [wd_Exp cs he re eo ef ea eg, wd_Tok cs (re 0) rt ot tf' ta tg, wd_Prg cs (re 2) rp (fun k => if k = 2 then of else none) fp' (fun _ _ => 0) (fun _ _ => none), [((rp 1), .inl (cs 0, cn, .inl cd'))], P, wd_Opd cs hx (fun _ => 0) (fun k => if k = 4 then ox else none) fx' (fun _ _ => 0) (fun _ _ => none)]) ∧ (CurOk (tf' 10) (tf' 13) (tf' 14) (tf' 15) (tf' 17) (ta 0)) ∧ ((tf' 10).toInt = (tf 10).toInt) ∧ ((tf' 13).toInt = (tf 13).toInt) ∧ ((tf' 14).toInt = (tf 14).toInt) ∧ ((tf' 15).toInt = (tf 15).toInt) ∧ ((fx' 0).toInt = (fx 0).toInt) ∧ ((fx' 5).toInt = (fx 5).toInt) ∧ ((fx' 3).toInt = (fx 0).toInt) ∧ (Prel cn (fp 3) cd (fp' 3) cd') ∧ ((fp' 3).toInt ≤ (fp 3).toInt + 4) ∧ (R_ex_conclude_r cn P fa p0 tf fp cd fx tf' fp' cd' fx')) (pc_B D (va_A ([wd_Exp cs he re eo ef ea eg, wd_Tok cs (re 0) rt ot tf ta tg, wd_Prg cs (re 2) rp (fun k => if k = 2 then of else none) fp (fun _ _ => 0) (fun _ _ => none), [((rp 1), .inl (cs 0, cn, .inl cd))], P, wd_Opd cs hx (fun _ => 0) (fun k => if k = 4 then ox else none) fx (fun _ _ => 0) (fun _ _ => none)] : List va_W).flatten s.heap.size)) (va_A ([wd_Exp cs he re eo ef ea eg, wd_Tok cs (re 0) rt ot tf ta tg, wd_Prg cs (re 2) rp (fun k => if k = 2 then of else none) fp (fun _ _ => 0) (fun _ _ => none), [((rp 1), .inl (cs 0, cn, .inl cd))], P, wd_Opd cs hx (fun _ => 0) (fun k => if k = 4 then ox else none) fx (fun _ _ => 0) (fun _ _ => none)] : List va_W).flatten s.heap.size)) [.ref he, .ref hx, .ref fa, .int p0].toArray s 0 0 A) (F0 m 45 ls []) := by
    intro tf_45 fp_45 cd_45 fx_45 H locs ls hi45_0 k45_0 k45_1 k45_2 k45_3 k45_4 k45_5 k45_6 k45_7 k45_8 k45_9 hw hl
    obtain ⟨⟨o1, o2⟩, ⟨o3, o4⟩, ⟨o5, o6⟩, o7, o8, hlast⟩ := hi45_0
    have hrel := k45_7
    have pz45 := hrel.nm
    refine lv_aload_n S.x S.b d_Exp_conclude_45 rfl (lv_at hl 1 rfl) ?_
    refine lv_aload_n S.x S.b d_Exp_conclude_46 rfl (lv_at hl 2 rfl) ?_
    refine px_get S k_Sym hT hw 4 jf 6 (v := .int (sf 6)) rfl hjf rfl (by decide) m1_226 d_Exp_conclude_47 ?_
    refine lv_iconst (v := 3) S.x S.b d_Exp_conclude_50 (by decide) ?_
    refine lv_icmp_ne (tgt := 58) S.x S.b d_Exp_conclude_51 (by decide) (fun c1 => ?_) (fun c1 => ?_)
    · have nc1 : ¬ (sf 6).toInt = (3 : Int) := mt (i_eq (x := (sf 6)) (y := 3)).mpr c1
      refine lv_iconst (v := 0) S.x S.b d_Exp_conclude_58 (by decide) ?_
      refine px_put S k_Opd hT hw 5 0 1 rfl rfl (by decide) m4_221 rfl rfl rfl (Nat.le_of_ble_eq_true rfl) d_Exp_conclude_59 (w' := wd_Opd cs hx (fun _ => 0) (fun k => if k = 4 then ox else none) (upd fx_45 1 0) (fun _ _ => 0) (fun _ _ => none)) (ps' := [wd_Exp cs he re eo ef ea eg, wd_Tok cs (re 0) rt ot tf_45 ta tg, wd_Prg cs (re 2) rp (fun k => if k = 2 then of else none) fp_45 (fun _ _ => 0) (fun _ _ => none), [((rp 1), .inl (cs 0, cn, .inl cd_45))], P, wd_Opd cs hx (fun _ => 0) (fun k => if k = 4 then ox else none) (upd fx_45 1 0) (fun _ _ => 0) (fun _ _ => none)]) rfl rfl (fun H locs hw => ?_)
      refine lv_aload_n S.x S.b d_Exp_conclude_62 rfl (lv_at hl 2 rfl) ?_
      refine px_get S k_Sym hT hw 4 jf 5 (v := .int (sf 5)) rfl hjf rfl (by decide) m1_223 d_Exp_conclude_63 ?_
      refine lv_istore (lv' := [(4, .int (sf 5)), (0, .ref he), (1, .ref hx), (2, .ref fa), (3, .int p0)]) S.x S.b d_Exp_conclude_66 hl (by decide) rfl (fun ls hl => ?_)
      refine lv_iload S.x S.b d_Exp_conclude_68 (lv_at hl 0 rfl) ?_
      refine lv_if_ne (tgt := 89) S.x S.b d_Exp_conclude_70 (by decide) (fun c3 => ?_) (fun c3 => ?_)
      · have nc3 : ¬ (sf 5).toInt = (0 : Int) := mt (i_eq (x := (sf 5)) (y := 0)).mpr c3
        refine lv_iload S.x S.b d_Exp_conclude_89 (lv_at hl 0 rfl) ?_
        refine lv_bipush (v := 10) S.x S.b d_Exp_conclude_91 (by decide) ?_
        refine lv_icmp_ge (tgt := 113) S.x S.b d_Exp_conclude_93 (by decide) (fun c5 => ?_) (fun c5 => ?_)
        · have nc5 : (10 : Int) ≤ (sf 5).toInt := (i_le (x := 10) (y := (sf 5))).mp c5
          refine lv_aload_n S.x S.b d_Exp_conclude_113 rfl (lv_at hl 1 rfl) ?_
          refine px_get S k_Exp hT hw 0 0 2 (v := .ref (re 2)) rfl rfl rfl (by decide) m2_133 d_Exp_conclude_114 ?_
          refine lv_bipush (v := 22) S.x S.b d_Exp_conclude_117 (by decide) ?_
          refine lv_iload S.x S.b d_Exp_conclude_119 (lv_at hl 0 rfl) ?_
          refine lv_bipush (v := 10) S.x S.b d_Exp_conclude_121 (by decide) ?_
          refine lv_isub S.x S.b d_Exp_conclude_123 ?_
          have lr7 := Int32.le_toInt (sf 5)
          have ur7 := Int32.toInt_lt (sf 5)
          refine lv_topi (fun z8 ez8 => ?_)
          have tz8 : z8.toInt = ((sf 5).toInt - (10 : Int) + 2147483648) % 4294967296 - 2147483648 := by rw [ez8]; exact i_sub (sf 5) 10
          have lz8 := Int32.le_toInt z8
          have uz8 := Int32.toInt_lt z8
          try replace tz8 : z8.toInt = (sf 5).toInt - (10 : Int) := by omega
          refine lv_iconst (v := 0) S.x S.b d_Exp_conclude_124 (by decide) ?_
          refine lv_iconst (v := 0) S.x S.b d_Exp_conclude_125 (by decide) ?_
          have hw : pw D A s.heap _ _ [wd_Exp cs he re eo ef ea eg, wd_Tok cs (re 0) rt ot tf_45 ta tg, P, wd_Opd cs hx (fun _ => 0) (fun k => if k = 4 then ox else none) (upd fx_45 1 0) (fun _ _ => 0) (fun _ _ => none), wd_Prg cs (re 2) rp (fun k => if k = 2 then of else none) fp_45 (fun _ _ => 0) (fun _ _ => none), [((rp 1), .inl (cs 0, cn, .inl cd_45))]] := hw.sub [0, 1, 4, 5, 2, 3] rfl rfl
          refine px_calli (pr := [wd_Exp cs he re eo ef ea eg, wd_Tok cs (re 0) rt ot tf_45 ta tg, P, wd_Opd cs hx (fun _ => 0) (fun k => if k = 4 then ox else none) (upd fx_45 1 0) (fun _ _ => 0) (fun _ _ => none)]) (px_runV (As := [.int 22, .int z8, .int 0, .int 0]) (rest := []) S (c_pe_emit l D cs (re 2) rp of cn fp_45 cd_45 22 z8 0 0  (show cn % 4 = 0 from by first | exact g0 | omega) (show cn ≤ 100000 from by first | exact g1 | omega) hrel.1 (jop_call (by omega) (by omega)) _) hT (pr := [wd_Exp cs he re eo ef ea eg, wd_Tok cs (re 0) rt ot tf_45 ta tg, P, wd_Opd cs hx (fun _ => 0) (fun k => if k = 4 then ox else none) (upd fx_45 1 0) (fun _ _ => 0) (fun _ _ => none)]) (pcs := [wd_Prg cs (re 2) rp (fun k => if k = 2 then of else none) fp_45 (fun _ _ => 0) (fun _ _ => none), [((rp 1), .inl (cs 0, cn, .inl cd_45))]]) hw px_X.tt (px_recv hT hw 4 0 rfl rfl rfl) m4_181 m4_178 m4_179 m4_180 m1_16 q_Prg_emit ⟨Nat.le_of_ble_eq_true rfl, Nat.le_of_ble_eq_true rfl⟩ hl.1 rfl (Nat.le_of_ble_eq_true rfl) d_Exp_conclude_126 ⟨Nat.le_of_ble_eq_true rfl, Nat.le_of_ble_eq_true rfl⟩) hw hA (fun v14 p13 H locs hp13 hw => ?_)
          obtain ⟨fp11, cd12, rfl, hv_v14, hem, hwx, hsz, k0fp11, k4fp11, k5fp11, hR_fp11⟩ := hp13
          have tv_v14 : v14.toInt = (fp_45 3).toInt := by rw [hv_v14]
          have pm15 := hem.2.1
          have hrel := hrel.tr hem
          have pz16 := hrel.nm
          have hsl_fp11 : (fp11 3).toInt ≤ (fp_45 3).toInt + 4 := by omega
          clear hsz
          have hw : pw D A s.heap H locs [wd_Exp cs he re eo ef ea eg, wd_Tok cs (re 0) rt ot tf_45 ta tg, P, wd_Opd cs hx (fun _ => 0) (fun k => if k = 4 then ox else none) (upd fx_45 1 0) (fun _ _ => 0) (fun _ _ => none), wd_Prg cs (re 2) rp (fun k => if k = 2 then of else none) fp11 (fun _ _ => 0) (fun _ _ => none), [((rp 1), .inl (cs 0, cn, .inl cd12))]] := hw
          have lv14 := Int32.le_toInt v14
          have uv14 := Int32.toInt_lt v14
          refine lv_pop S.x S.b d_Exp_conclude_129 rfl ?_
          have hw : pw D A s.heap _ _ [wd_Exp cs he re eo ef ea eg, wd_Tok cs (re 0) rt ot tf_45 ta tg, wd_Prg cs (re 2) rp (fun k => if k = 2 then of else none) fp11 (fun _ _ => 0) (fun _ _ => none), [((rp 1), .inl (cs 0, cn, .inl cd12))], P, wd_Opd cs hx (fun _ => 0) (fun k => if k = 4 then ox else none) (upd fx_45 1 0) (fun _ _ => 0) (fun _ _ => none)] := hw.sub [0, 1, 4, 5, 2, 3] rfl rfl
          exact px_vret S hr hlk hAe hw (Nat.le_of_ble_eq_true rfl) (Nat.le_of_ble_eq_true rfl) (⟨tf_45, fp11, cd12, (upd fx_45 1 0), rfl, (show CurOk (tf_45 10) (tf_45 13) (tf_45 14) (tf_45 15) (tf_45 17) (ta 0) from ⟨⟨by first | exact o1 | omega, by first | exact o2 | omega⟩, ⟨by first | exact o3 | omega, by first | exact o4 | omega⟩, ⟨by first | exact o5 | omega, by first | exact o6 | omega⟩, by first | exact o7 | omega, by omega, last_eq hlast (rfl)⟩), (show (tf_45 10).toInt = (tf 10).toInt from by first | exact k45_0 | omega), (show (tf_45 13).toInt = (tf 13).toInt from by first | exact k45_1 | omega), (show (tf_45 14).toInt = (tf 14).toInt from by first | exact k45_2 | omega), (show (tf_45 15).toInt = (tf 15).toInt from by first | exact k45_3 | omega), (show (fx_45 0).toInt = (fx 0).toInt from by first | exact k45_4 | omega), (show (fx_45 5).toInt = (fx 5).toInt from by first | exact k45_5 | omega), (show (fx_45 3).toInt = (fx 0).toInt from by first | exact k45_6 | omega), (show Prel cn (fp 3) cd (fp11 3) cd12 from hrel), (show (fp11 3).toInt ≤ (fp 3).toInt + 4 from by first | exact oz_3980c4833a k45_8 hsl_fp11 | omega), (show R_ex_conclude_r cn P fa p0 tf fp cd fx tf_45 fp11 cd12 (upd fx_45 1 0) from (k45_9 _ _ _ _ 1 (Or.inr (Or.inl ⟨rfl, rfl, rfl, rfl, rfl, rfl, jf, sf, hjf, Or.inl ⟨nc1, Or.inl ⟨nc3, Or.inl ⟨nc5, z8, ez8, fp11, cd12, v14, hR_fp11, rfl, rfl, rfl, rfl⟩⟩⟩⟩))))⟩) d_Exp_conclude_130
        · have nc5 : ¬ (10 : Int) ≤ (sf 5).toInt := mt (i_le (x := 10) (y := (sf 5))).mpr c5
          refine lv_aload_n S.x S.b d_Exp_conclude_96 rfl (lv_at hl 1 rfl) ?_
          refine px_get S k_Exp hT hw 0 0 2 (v := .ref (re 2)) rfl rfl rfl (by decide) m2_133 d_Exp_conclude_97 ?_
          refine lv_bipush (v := 23) S.x S.b d_Exp_conclude_100 (by decide) ?_
          refine lv_iload S.x S.b d_Exp_conclude_102 (lv_at hl 0 rfl) ?_
          refine lv_iconst (v := 0) S.x S.b d_Exp_conclude_104 (by decide) ?_
          refine lv_iconst (v := 0) S.x S.b d_Exp_conclude_105 (by decide) ?_
          have hw : pw D A s.heap _ _ [wd_Exp cs he re eo ef ea eg, wd_Tok cs (re 0) rt ot tf_45 ta tg, P, wd_Opd cs hx (fun _ => 0) (fun k => if k = 4 then ox else none) (upd fx_45 1 0) (fun _ _ => 0) (fun _ _ => none), wd_Prg cs (re 2) rp (fun k => if k = 2 then of else none) fp_45 (fun _ _ => 0) (fun _ _ => none), [((rp 1), .inl (cs 0, cn, .inl cd_45))]] := hw.sub [0, 1, 4, 5, 2, 3] rfl rfl
          refine px_calli (pr := [wd_Exp cs he re eo ef ea eg, wd_Tok cs (re 0) rt ot tf_45 ta tg, P, wd_Opd cs hx (fun _ => 0) (fun k => if k = 4 then ox else none) (upd fx_45 1 0) (fun _ _ => 0) (fun _ _ => none)]) (px_runV (As := [.int 23, .int (sf 5), .int 0, .int 0]) (rest := []) S (c_pe_emit l D cs (re 2) rp of cn fp_45 cd_45 23 (sf 5) 0 0  (show cn % 4 = 0 from by first | exact g0 | omega) (show cn ≤ 100000 from by first | exact g1 | omega) hrel.1 (jop_hi (by decide)) _) hT (pr := [wd_Exp cs he re eo ef ea eg, wd_Tok cs (re 0) rt ot tf_45 ta tg, P, wd_Opd cs hx (fun _ => 0) (fun k => if k = 4 then ox else none) (upd fx_45 1 0) (fun _ _ => 0) (fun _ _ => none)]) (pcs := [wd_Prg cs (re 2) rp (fun k => if k = 2 then of else none) fp_45 (fun _ _ => 0) (fun _ _ => none), [((rp 1), .inl (cs 0, cn, .inl cd_45))]]) hw px_X.tt (px_recv hT hw 4 0 rfl rfl rfl) m4_181 m4_178 m4_179 m4_180 m1_16 q_Prg_emit ⟨Nat.le_of_ble_eq_true rfl, Nat.le_of_ble_eq_true rfl⟩ hl.1 rfl (Nat.le_of_ble_eq_true rfl) d_Exp_conclude_106 ⟨Nat.le_of_ble_eq_true rfl, Nat.le_of_ble_eq_true rfl⟩) hw hA (fun v22 p21 H locs hp21 hw => ?_)
          obtain ⟨fp19, cd20, rfl, hv_v22, hem, hwx, hsz, k0fp19, k4fp19, k5fp19, hR_fp19⟩ := hp21
          have tv_v22 : v22.toInt = (fp_45 3).toInt := by rw [hv_v22]
          have pm23 := hem.2.1
          have hrel := hrel.tr hem
          have pz24 := hrel.nm
          have hsl_fp19 : (fp19 3).toInt ≤ (fp_45 3).toInt + 4 := by omega
          clear hsz
          have hw : pw D A s.heap H locs [wd_Exp cs he re eo ef ea eg, wd_Tok cs (re 0) rt ot tf_45 ta tg, P, wd_Opd cs hx (fun _ => 0) (fun k => if k = 4 then ox else none) (upd fx_45 1 0) (fun _ _ => 0) (fun _ _ => none), wd_Prg cs (re 2) rp (fun k => if k = 2 then of else none) fp19 (fun _ _ => 0) (fun _ _ => none), [((rp 1), .inl (cs 0, cn, .inl cd20))]] := hw
          have lv22 := Int32.le_toInt v22
          have uv22 := Int32.toInt_lt v22
          refine lv_pop S.x S.b d_Exp_conclude_109 rfl ?_
          refine lv_goto (tgt := 130) S.x S.b d_Exp_conclude_110 (by decide) ?_
          have hw : pw D A s.heap _ _ [wd_Exp cs he re eo ef ea eg, wd_Tok cs (re 0) rt ot tf_45 ta tg, wd_Prg cs (re 2) rp (fun k => if k = 2 then of else none) fp19 (fun _ _ => 0) (fun _ _ => none), [((rp 1), .inl (cs 0, cn, .inl cd20))], P, wd_Opd cs hx (fun _ => 0) (fun k => if k = 4 then ox else none) (upd fx_45 1 0) (fun _ _ => 0) (fun _ _ => none)] := hw.sub [0, 1, 4, 5, 2, 3] rfl rfl
          exact px_vret S hr hlk hAe hw (Nat.le_of_ble_eq_true rfl) (Nat.le_of_ble_eq_true rfl) (⟨tf_45, fp19, cd20, (upd fx_45 1 0), rfl, (show CurOk (tf_45 10) (tf_45 13) (tf_45 14) (tf_45 15) (tf_45 17) (ta 0) from ⟨⟨by first | exact o1 | omega, by first | exact o2 | omega⟩, ⟨by first | exact o3 | omega, by first | exact o4 | omega⟩, ⟨by first | exact o5 | omega, by first | exact o6 | omega⟩, by first | exact o7 | omega, by omega, last_eq hlast (rfl)⟩), (show (tf_45 10).toInt = (tf 10).toInt from by first | exact k45_0 | omega), (show (tf_45 13).toInt = (tf 13).toInt from by first | exact k45_1 | omega), (show (tf_45 14).toInt = (tf 14).toInt from by first | exact k45_2 | omega), (show (tf_45 15).toInt = (tf 15).toInt from by first | exact k45_3 | omega), (show (fx_45 0).toInt = (fx 0).toInt from by first | exact k45_4 | omega), (show (fx_45 5).toInt = (fx 5).toInt from by first | exact k45_5 | omega), (show (fx_45 3).toInt = (fx 0).toInt from by first | exact k45_6 | omega), (show Prel cn (fp 3) cd (fp19 3) cd20 from hrel), (show (fp19 3).toInt ≤ (fp 3).toInt + 4 from by first | exact oz_3980c4833a k45_8 hsl_fp19 | omega), (show R_ex_conclude_r cn P fa p0 tf fp cd fx tf_45 fp19 cd20 (upd fx_45 1 0) from (k45_9 _ _ _ _ 1 (Or.inr (Or.inl ⟨rfl, rfl, rfl, rfl, rfl, rfl, jf, sf, hjf, Or.inl ⟨nc1, Or.inl ⟨nc3, Or.inr ⟨nc5, fp19, cd20, v22, hR_fp19, rfl, rfl, rfl, rfl⟩⟩⟩⟩))))⟩) d_Exp_conclude_130
      · have nc3 : (sf 5).toInt = (0 : Int) := (i_eq (x := (sf 5)) (y := 0)).mp c3
        refine lv_aload_n S.x S.b d_Exp_conclude_73 rfl (lv_at hl 1 rfl) ?_
        refine px_get S k_Exp hT hw 0 0 2 (v := .ref (re 2)) rfl rfl rfl (by decide) m2_133 d_Exp_conclude_74 ?_
        refine lv_bipush (v := 12) S.x S.b d_Exp_conclude_77 (by decide) ?_
        refine lv_iconst (v := 0) S.x S.b d_Exp_conclude_79 (by decide) ?_
        refine lv_iconst (v := 0) S.x S.b d_Exp_conclude_80 (by decide) ?_
        refine lv_iconst (v := 0) S.x S.b d_Exp_conclude_81 (by decide) ?_
        have hw : pw D A s.heap _ _ [wd_Exp cs he re eo ef ea eg, wd_Tok cs (re 0) rt ot tf_45 ta tg, P, wd_Opd cs hx (fun _ => 0) (fun k => if k = 4 then ox else none) (upd fx_45 1 0) (fun _ _ => 0) (fun _ _ => none), wd_Prg cs (re 2) rp (fun k => if k = 2 then of else none) fp_45 (fun _ _ => 0) (fun _ _ => none), [((rp 1), .inl (cs 0, cn, .inl cd_45))]] := hw.sub [0, 1, 4, 5, 2, 3] rfl rfl
        refine px_calli (pr := [wd_Exp cs he re eo ef ea eg, wd_Tok cs (re 0) rt ot tf_45 ta tg, P, wd_Opd cs hx (fun _ => 0) (fun k => if k = 4 then ox else none) (upd fx_45 1 0) (fun _ _ => 0) (fun _ _ => none)]) (px_runV (As := [.int 12, .int 0, .int 0, .int 0]) (rest := []) S (c_pe_emit l D cs (re 2) rp of cn fp_45 cd_45 12 0 0 0  (show cn % 4 = 0 from by first | exact g0 | omega) (show cn ≤ 100000 from by first | exact g1 | omega) hrel.1 (jop_low (by decide)) _) hT (pr := [wd_Exp cs he re eo ef ea eg, wd_Tok cs (re 0) rt ot tf_45 ta tg, P, wd_Opd cs hx (fun _ => 0) (fun k => if k = 4 then ox else none) (upd fx_45 1 0) (fun _ _ => 0) (fun _ _ => none)]) (pcs := [wd_Prg cs (re 2) rp (fun k => if k = 2 then of else none) fp_45 (fun _ _ => 0) (fun _ _ => none), [((rp 1), .inl (cs 0, cn, .inl cd_45))]]) hw px_X.tt (px_recv hT hw 4 0 rfl rfl rfl) m4_181 m4_178 m4_179 m4_180 m1_16 q_Prg_emit ⟨Nat.le_of_ble_eq_true rfl, Nat.le_of_ble_eq_true rfl⟩ hl.1 rfl (Nat.le_of_ble_eq_true rfl) d_Exp_conclude_82 ⟨Nat.le_of_ble_eq_true rfl, Nat.le_of_ble_eq_true rfl⟩) hw hA (fun v30 p29 H locs hp29 hw => ?_)
        obtain ⟨fp27, cd28, rfl, hv_v30, hem, hwx, hsz, k0fp27, k4fp27, k5fp27, hR_fp27⟩ := hp29
        have tv_v30 : v30.toInt = (fp_45 3).toInt := by rw [hv_v30]
        have pm31 := hem.2.1
        have hrel := hrel.tr hem
        have pz32 := hrel.nm
        have hsl_fp27 : (fp27 3).toInt ≤ (fp_45 3).toInt + 4 := by omega
        clear hsz
        have hw : pw D A s.heap H locs [wd_Exp cs he re eo ef ea eg, wd_Tok cs (re 0) rt ot tf_45 ta tg, P, wd_Opd cs hx (fun _ => 0) (fun k => if k = 4 then ox else none) (upd fx_45 1 0) (fun _ _ => 0) (fun _ _ => none), wd_Prg cs (re 2) rp (fun k => if k = 2 then of else none) fp27 (fun _ _ => 0) (fun _ _ => none), [((rp 1), .inl (cs 0, cn, .inl cd28))]] := hw
        have lv30 := Int32.le_toInt v30
        have uv30 := Int32.toInt_lt v30
        refine lv_pop S.x S.b d_Exp_conclude_85 rfl ?_
        refine lv_goto (tgt := 130) S.x S.b d_Exp_conclude_86 (by decide) ?_
        have hw : pw D A s.heap _ _ [wd_Exp cs he re eo ef ea eg, wd_Tok cs (re 0) rt ot tf_45 ta tg, wd_Prg cs (re 2) rp (fun k => if k = 2 then of else none) fp27 (fun _ _ => 0) (fun _ _ => none), [((rp 1), .inl (cs 0, cn, .inl cd28))], P, wd_Opd cs hx (fun _ => 0) (fun k => if k = 4 then ox else none) (upd fx_45 1 0) (fun _ _ => 0) (fun _ _ => none)] := hw.sub [0, 1, 4, 5, 2, 3] rfl rfl
        exact px_vret S hr hlk hAe hw (Nat.le_of_ble_eq_true rfl) (Nat.le_of_ble_eq_true rfl) (⟨tf_45, fp27, cd28, (upd fx_45 1 0), rfl, (show CurOk (tf_45 10) (tf_45 13) (tf_45 14) (tf_45 15) (tf_45 17) (ta 0) from ⟨⟨by first | exact o1 | omega, by first | exact o2 | omega⟩, ⟨by first | exact o3 | omega, by first | exact o4 | omega⟩, ⟨by first | exact o5 | omega, by first | exact o6 | omega⟩, by first | exact o7 | omega, by omega, last_eq hlast (rfl)⟩), (show (tf_45 10).toInt = (tf 10).toInt from by first | exact k45_0 | omega), (show (tf_45 13).toInt = (tf 13).toInt from by first | exact k45_1 | omega), (show (tf_45 14).toInt = (tf 14).toInt from by first | exact k45_2 | omega), (show (tf_45 15).toInt = (tf 15).toInt from by first | exact k45_3 | omega), (show (fx_45 0).toInt = (fx 0).toInt from by first | exact k45_4 | omega), (show (fx_45 5).toInt = (fx 5).toInt from by first | exact k45_5 | omega), (show (fx_45 3).toInt = (fx 0).toInt from by first | exact k45_6 | omega), (show Prel cn (fp 3) cd (fp27 3) cd28 from hrel), (show (fp27 3).toInt ≤ (fp 3).toInt + 4 from by first | exact oz_3980c4833a k45_8 hsl_fp27 | omega), (show R_ex_conclude_r cn P fa p0 tf fp cd fx tf_45 fp27 cd28 (upd fx_45 1 0) from (k45_9 _ _ _ _ 1 (Or.inr (Or.inl ⟨rfl, rfl, rfl, rfl, rfl, rfl, jf, sf, hjf, Or.inl ⟨nc1, Or.inr ⟨nc3, fp27, cd28, v30, hR_fp27, rfl, rfl, rfl, rfl⟩⟩⟩))))⟩) d_Exp_conclude_130
    · have nc1 : (sf 6).toInt = (3 : Int) := (i_eq (x := (sf 6)) (y := 3)).mp c1
      refine lv_iconst (v := 3) S.x S.b d_Exp_conclude_54 (by decide) ?_
      refine lv_goto (tgt := 59) S.x S.b d_Exp_conclude_55 (by decide) ?_
      refine px_put S k_Opd hT hw 5 0 1 rfl rfl (by decide) m4_221 rfl rfl rfl (Nat.le_of_ble_eq_true rfl) d_Exp_conclude_59 (w' := wd_Opd cs hx (fun _ => 0) (fun k => if k = 4 then ox else none) (upd fx_45 1 3) (fun _ _ => 0) (fun _ _ => none)) (ps' := [wd_Exp cs he re eo ef ea eg, wd_Tok cs (re 0) rt ot tf_45 ta tg, wd_Prg cs (re 2) rp (fun k => if k = 2 then of else none) fp_45 (fun _ _ => 0) (fun _ _ => none), [((rp 1), .inl (cs 0, cn, .inl cd_45))], P, wd_Opd cs hx (fun _ => 0) (fun k => if k = 4 then ox else none) (upd fx_45 1 3) (fun _ _ => 0) (fun _ _ => none)]) rfl rfl (fun H locs hw => ?_)
      refine lv_aload_n S.x S.b d_Exp_conclude_62 rfl (lv_at hl 2 rfl) ?_
      refine px_get S k_Sym hT hw 4 jf 5 (v := .int (sf 5)) rfl hjf rfl (by decide) m1_223 d_Exp_conclude_63 ?_
      refine lv_istore (lv' := [(4, .int (sf 5)), (0, .ref he), (1, .ref hx), (2, .ref fa), (3, .int p0)]) S.x S.b d_Exp_conclude_66 hl (by decide) rfl (fun ls hl => ?_)
      refine lv_iload S.x S.b d_Exp_conclude_68 (lv_at hl 0 rfl) ?_
      refine lv_if_ne (tgt := 89) S.x S.b d_Exp_conclude_70 (by decide) (fun c33 => ?_) (fun c33 => ?_)
      · have nc33 : ¬ (sf 5).toInt = (0 : Int) := mt (i_eq (x := (sf 5)) (y := 0)).mpr c33
        refine lv_iload S.x S.b d_Exp_conclude_89 (lv_at hl 0 rfl) ?_
        refine lv_bipush (v := 10) S.x S.b d_Exp_conclude_91 (by decide) ?_
        refine lv_icmp_ge (tgt := 113) S.x S.b d_Exp_conclude_93 (by decide) (fun c35 => ?_) (fun c35 => ?_)
        · have nc35 : (10 : Int) ≤ (sf 5).toInt := (i_le (x := 10) (y := (sf 5))).mp c35
          refine lv_aload_n S.x S.b d_Exp_conclude_113 rfl (lv_at hl 1 rfl) ?_
          refine px_get S k_Exp hT hw 0 0 2 (v := .ref (re 2)) rfl rfl rfl (by decide) m2_133 d_Exp_conclude_114 ?_
          refine lv_bipush (v := 22) S.x S.b d_Exp_conclude_117 (by decide) ?_
          refine lv_iload S.x S.b d_Exp_conclude_119 (lv_at hl 0 rfl) ?_
          refine lv_bipush (v := 10) S.x S.b d_Exp_conclude_121 (by decide) ?_
          refine lv_isub S.x S.b d_Exp_conclude_123 ?_
          have lr37 := Int32.le_toInt (sf 5)
          have ur37 := Int32.toInt_lt (sf 5)
          refine lv_topi (fun z38 ez38 => ?_)
          have tz38 : z38.toInt = ((sf 5).toInt - (10 : Int) + 2147483648) % 4294967296 - 2147483648 := by rw [ez38]; exact i_sub (sf 5) 10
          have lz38 := Int32.le_toInt z38
          have uz38 := Int32.toInt_lt z38
          try replace tz38 : z38.toInt = (sf 5).toInt - (10 : Int) := by omega
          refine lv_iconst (v := 0) S.x S.b d_Exp_conclude_124 (by decide) ?_
          refine lv_iconst (v := 0) S.x S.b d_Exp_conclude_125 (by decide) ?_
          have hw : pw D A s.heap _ _ [wd_Exp cs he re eo ef ea eg, wd_Tok cs (re 0) rt ot tf_45 ta tg, P, wd_Opd cs hx (fun _ => 0) (fun k => if k = 4 then ox else none) (upd fx_45 1 3) (fun _ _ => 0) (fun _ _ => none), wd_Prg cs (re 2) rp (fun k => if k = 2 then of else none) fp_45 (fun _ _ => 0) (fun _ _ => none), [((rp 1), .inl (cs 0, cn, .inl cd_45))]] := hw.sub [0, 1, 4, 5, 2, 3] rfl rfl
          refine px_calli (pr := [wd_Exp cs he re eo ef ea eg, wd_Tok cs (re 0) rt ot tf_45 ta tg, P, wd_Opd cs hx (fun _ => 0) (fun k => if k = 4 then ox else none) (upd fx_45 1 3) (fun _ _ => 0) (fun _ _ => none)]) (px_runV (As := [.int 22, .int z38, .int 0, .int 0]) (rest := []) S (c_pe_emit l D cs (re 2) rp of cn fp_45 cd_45 22 z38 0 0  (show cn % 4 = 0 from by first | exact g0 | omega) (show cn ≤ 100000 from by first | exact g1 | omega) hrel.1 (jop_call (by omega) (by omega)) _) hT (pr := [wd_Exp cs he re eo ef ea eg, wd_Tok cs (re 0) rt ot tf_45 ta tg, P, wd_Opd cs hx (fun _ => 0) (fun k => if k = 4 then ox else none) (upd fx_45 1 3) (fun _ _ => 0) (fun _ _ => none)]) (pcs := [wd_Prg cs (re 2) rp (fun k => if k = 2 then of else none) fp_45 (fun _ _ => 0) (fun _ _ => none), [((rp 1), .inl (cs 0, cn, .inl cd_45))]]) hw px_X.tt (px_recv hT hw 4 0 rfl rfl rfl) m4_181 m4_178 m4_179 m4_180 m1_16 q_Prg_emit ⟨Nat.le_of_ble_eq_true rfl, Nat.le_of_ble_eq_true rfl⟩ hl.1 rfl (Nat.le_of_ble_eq_true rfl) d_Exp_conclude_126 ⟨Nat.le_of_ble_eq_true rfl, Nat.le_of_ble_eq_true rfl⟩) hw hA (fun v44 p43 H locs hp43 hw => ?_)
          obtain ⟨fp41, cd42, rfl, hv_v44, hem, hwx, hsz, k0fp41, k4fp41, k5fp41, hR_fp41⟩ := hp43
          have tv_v44 : v44.toInt = (fp_45 3).toInt := by rw [hv_v44]
          have pm45 := hem.2.1
          have hrel := hrel.tr hem
          have pz46 := hrel.nm
          have hsl_fp41 : (fp41 3).toInt ≤ (fp_45 3).toInt + 4 := by omega
          clear hsz
          have hw : pw D A s.heap H locs [wd_Exp cs he re eo ef ea eg, wd_Tok cs (re 0) rt ot tf_45 ta tg, P, wd_Opd cs hx (fun _ => 0) (fun k => if k = 4 then ox else none) (upd fx_45 1 3) (fun _ _ => 0) (fun _ _ => none), wd_Prg cs (re 2) rp (fun k => if k = 2 then of else none) fp41 (fun _ _ => 0) (fun _ _ => none), [((rp 1), .inl (cs 0, cn, .inl cd42))]] := hw
          have lv44 := Int32.le_toInt v44
          have uv44 := Int32.toInt_lt v44
          refine lv_pop S.x S.b d_Exp_conclude_129 rfl ?_
          have hw : pw D A s.heap _ _ [wd_Exp cs he re eo ef ea eg, wd_Tok cs (re 0) rt ot tf_45 ta tg, wd_Prg cs (re 2) rp (fun k => if k = 2 then of else none) fp41 (fun _ _ => 0) (fun _ _ => none), [((rp 1), .inl (cs 0, cn, .inl cd42))], P, wd_Opd cs hx (fun _ => 0) (fun k => if k = 4 then ox else none) (upd fx_45 1 3) (fun _ _ => 0) (fun _ _ => none)] := hw.sub [0, 1, 4, 5, 2, 3] rfl rfl
          exact px_vret S hr hlk hAe hw (Nat.le_of_ble_eq_true rfl) (Nat.le_of_ble_eq_true rfl) (⟨tf_45, fp41, cd42, (upd fx_45 1 3), rfl, (show CurOk (tf_45 10) (tf_45 13) (tf_45 14) (tf_45 15) (tf_45 17) (ta 0) from ⟨⟨by first | exact o1 | omega, by first | exact o2 | omega⟩, ⟨by first | exact o3 | omega, by first | exact o4 | omega⟩, ⟨by first | exact o5 | omega, by first | exact o6 | omega⟩, by first | exact o7 | omega, by omega, last_eq hlast (rfl)⟩), (show (tf_45 10).toInt = (tf 10).toInt from by first | exact k45_0 | omega), (show (tf_45 13).toInt = (tf 13).toInt from by first | exact k45_1 | omega), (show (tf_45 14).toInt = (tf 14).toInt from by first | exact k45_2 | omega), (show (tf_45 15).toInt = (tf 15).toInt from by first | exact k45_3 | omega), (show (fx_45 0).toInt = (fx 0).toInt from by first | exact k45_4 | omega), (show (fx_45 5).toInt = (fx 5).toInt from by first | exact k45_5 | omega), (show (fx_45 3).toInt = (fx 0).toInt from by first | exact k45_6 | omega), (show Prel cn (fp 3) cd (fp41 3) cd42 from hrel), (show (fp41 3).toInt ≤ (fp 3).toInt + 4 from by first | exact oz_3980c4833a k45_8 hsl_fp41 | omega), (show R_ex_conclude_r cn P fa p0 tf fp cd fx tf_45 fp41 cd42 (upd fx_45 1 3) from (k45_9 _ _ _ _ 1 (Or.inr (Or.inl ⟨rfl, rfl, rfl, rfl, rfl, rfl, jf, sf, hjf, Or.inr ⟨nc1, Or.inl ⟨nc33, Or.inl ⟨nc35, z38, ez38, fp41, cd42, v44, hR_fp41, rfl, rfl, rfl, rfl⟩⟩⟩⟩))))⟩) d_Exp_conclude_130
        · have nc35 : ¬ (10 : Int) ≤ (sf 5).toInt := mt (i_le (x := 10) (y := (sf 5))).mpr c35
          refine lv_aload_n S.x S.b d_Exp_conclude_96 rfl (lv_at hl 1 rfl) ?_
          refine px_get S k_Exp hT hw 0 0 2 (v := .ref (re 2)) rfl rfl rfl (by decide) m2_133 d_Exp_conclude_97 ?_
          refine lv_bipush (v := 23) S.x S.b d_Exp_conclude_100 (by decide) ?_
          refine lv_iload S.x S.b d_Exp_conclude_102 (lv_at hl 0 rfl) ?_
          refine lv_iconst (v := 0) S.x S.b d_Exp_conclude_104 (by decide) ?_
          refine lv_iconst (v := 0) S.x S.b d_Exp_conclude_105 (by decide) ?_
          have hw : pw D A s.heap _ _ [wd_Exp cs he re eo ef ea eg, wd_Tok cs (re 0) rt ot tf_45 ta tg, P, wd_Opd cs hx (fun _ => 0) (fun k => if k = 4 then ox else none) (upd fx_45 1 3) (fun _ _ => 0) (fun _ _ => none), wd_Prg cs (re 2) rp (fun k => if k = 2 then of else none) fp_45 (fun _ _ => 0) (fun _ _ => none), [((rp 1), .inl (cs 0, cn, .inl cd_45))]] := hw.sub [0, 1, 4, 5, 2, 3] rfl rfl
          refine px_calli (pr := [wd_Exp cs he re eo ef ea eg, wd_Tok cs (re 0) rt ot tf_45 ta tg, P, wd_Opd cs hx (fun _ => 0) (fun k => if k = 4 then ox else none) (upd fx_45 1 3) (fun _ _ => 0) (fun _ _ => none)]) (px_runV (As := [.int 23, .int (sf 5), .int 0, .int 0]) (rest := []) S (c_pe_emit l D cs (re 2) rp of cn fp_45 cd_45 23 (sf 5) 0 0  (show cn % 4 = 0 from by first | exact g0 | omega) (show cn ≤ 100000 from by first | exact g1 | omega) hrel.1 (jop_hi (by decide)) _) hT (pr := [wd_Exp cs he re eo ef ea eg, wd_Tok cs (re 0) rt ot tf_45 ta tg, P, wd_Opd cs hx (fun _ => 0) (fun k => if k = 4 then ox else none) (upd fx_45 1 3) (fun _ _ => 0) (fun _ _ => none)]) (pcs := [wd_Prg cs (re 2) rp (fun k => if k = 2 then of else none) fp_45 (fun _ _ => 0) (fun _ _ => none), [((rp 1), .inl (cs 0, cn, .inl cd_45))]]) hw px_X.tt (px_recv hT hw 4 0 rfl rfl rfl) m4_181 m4_178 m4_179 m4_180 m1_16 q_Prg_emit ⟨Nat.le_of_ble_eq_true rfl, Nat.le_of_ble_eq_true rfl⟩ hl.1 rfl (Nat.le_of_ble_eq_true rfl) d_Exp_conclude_106 ⟨Nat.le_of_ble_eq_true rfl, Nat.le_of_ble_eq_true rfl⟩) hw hA (fun v52 p51 H locs hp51 hw => ?_)
          obtain ⟨fp49, cd50, rfl, hv_v52, hem, hwx, hsz, k0fp49, k4fp49, k5fp49, hR_fp49⟩ := hp51
          have tv_v52 : v52.toInt = (fp_45 3).toInt := by rw [hv_v52]
          have pm53 := hem.2.1
          have hrel := hrel.tr hem
          have pz54 := hrel.nm
          have hsl_fp49 : (fp49 3).toInt ≤ (fp_45 3).toInt + 4 := by omega
          clear hsz
          have hw : pw D A s.heap H locs [wd_Exp cs he re eo ef ea eg, wd_Tok cs (re 0) rt ot tf_45 ta tg, P, wd_Opd cs hx (fun _ => 0) (fun k => if k = 4 then ox else none) (upd fx_45 1 3) (fun _ _ => 0) (fun _ _ => none), wd_Prg cs (re 2) rp (fun k => if k = 2 then of else none) fp49 (fun _ _ => 0) (fun _ _ => none), [((rp 1), .inl (cs 0, cn, .inl cd50))]] := hw
          have lv52 := Int32.le_toInt v52
          have uv52 := Int32.toInt_lt v52
          refine lv_pop S.x S.b d_Exp_conclude_109 rfl ?_
          refine lv_goto (tgt := 130) S.x S.b d_Exp_conclude_110 (by decide) ?_
          have hw : pw D A s.heap _ _ [wd_Exp cs he re eo ef ea eg, wd_Tok cs (re 0) rt ot tf_45 ta tg, wd_Prg cs (re 2) rp (fun k => if k = 2 then of else none) fp49 (fun _ _ => 0) (fun _ _ => none), [((rp 1), .inl (cs 0, cn, .inl cd50))], P, wd_Opd cs hx (fun _ => 0) (fun k => if k = 4 then ox else none) (upd fx_45 1 3) (fun _ _ => 0) (fun _ _ => none)] := hw.sub [0, 1, 4, 5, 2, 3] rfl rfl
          exact px_vret S hr hlk hAe hw (Nat.le_of_ble_eq_true rfl) (Nat.le_of_ble_eq_true rfl) (⟨tf_45, fp49, cd50, (upd fx_45 1 3), rfl, (show CurOk (tf_45 10) (tf_45 13) (tf_45 14) (tf_45 15) (tf_45 17) (ta 0) from ⟨⟨by first | exact o1 | omega, by first | exact o2 | omega⟩, ⟨by first | exact o3 | omega, by first | exact o4 | omega⟩, ⟨by first | exact o5 | omega, by first | exact o6 | omega⟩, by first | exact o7 | omega, by omega, last_eq hlast (rfl)⟩), (show (tf_45 10).toInt = (tf 10).toInt from by first | exact k45_0 | omega), (show (tf_45 13).toInt = (tf 13).toInt from by first | exact k45_1 | omega), (show (tf_45 14).toInt = (tf 14).toInt from by first | exact k45_2 | omega), (show (tf_45 15).toInt = (tf 15).toInt from by first | exact k45_3 | omega), (show (fx_45 0).toInt = (fx 0).toInt from by first | exact k45_4 | omega), (show (fx_45 5).toInt = (fx 5).toInt from by first | exact k45_5 | omega), (show (fx_45 3).toInt = (fx 0).toInt from by first | exact k45_6 | omega), (show Prel cn (fp 3) cd (fp49 3) cd50 from hrel), (show (fp49 3).toInt ≤ (fp 3).toInt + 4 from by first | exact oz_3980c4833a k45_8 hsl_fp49 | omega), (show R_ex_conclude_r cn P fa p0 tf fp cd fx tf_45 fp49 cd50 (upd fx_45 1 3) from (k45_9 _ _ _ _ 1 (Or.inr (Or.inl ⟨rfl, rfl, rfl, rfl, rfl, rfl, jf, sf, hjf, Or.inr ⟨nc1, Or.inl ⟨nc33, Or.inr ⟨nc35, fp49, cd50, v52, hR_fp49, rfl, rfl, rfl, rfl⟩⟩⟩⟩))))⟩) d_Exp_conclude_130
      · have nc33 : (sf 5).toInt = (0 : Int) := (i_eq (x := (sf 5)) (y := 0)).mp c33
        refine lv_aload_n S.x S.b d_Exp_conclude_73 rfl (lv_at hl 1 rfl) ?_
        refine px_get S k_Exp hT hw 0 0 2 (v := .ref (re 2)) rfl rfl rfl (by decide) m2_133 d_Exp_conclude_74 ?_
        refine lv_bipush (v := 12) S.x S.b d_Exp_conclude_77 (by decide) ?_
        refine lv_iconst (v := 0) S.x S.b d_Exp_conclude_79 (by decide) ?_
        refine lv_iconst (v := 0) S.x S.b d_Exp_conclude_80 (by decide) ?_
        refine lv_iconst (v := 0) S.x S.b d_Exp_conclude_81 (by decide) ?_
        have hw : pw D A s.heap _ _ [wd_Exp cs he re eo ef ea eg, wd_Tok cs (re 0) rt ot tf_45 ta tg, P, wd_Opd cs hx (fun _ => 0) (fun k => if k = 4 then ox else none) (upd fx_45 1 3) (fun _ _ => 0) (fun _ _ => none), wd_Prg cs (re 2) rp (fun k => if k = 2 then of else none) fp_45 (fun _ _ => 0) (fun _ _ => none), [((rp 1), .inl (cs 0, cn, .inl cd_45))]] := hw.sub [0, 1, 4, 5, 2, 3] rfl rfl
        refine px_calli (pr := [wd_Exp cs he re eo ef ea eg, wd_Tok cs (re 0) rt ot tf_45 ta tg, P, wd_Opd cs hx (fun _ => 0) (fun k => if k = 4 then ox else none) (upd fx_45 1 3) (fun _ _ => 0) (fun _ _ => none)]) (px_runV (As := [.int 12, .int 0, .int 0, .int 0]) (rest := []) S (c_pe_emit l D cs (re 2) rp of cn fp_45 cd_45 12 0 0 0  (show cn % 4 = 0 from by first | exact g0 | omega) (show cn ≤ 100000 from by first | exact g1 | omega) hrel.1 (jop_low (by decide)) _) hT (pr := [wd_Exp cs he re eo ef ea eg, wd_Tok cs (re 0) rt ot tf_45 ta tg, P, wd_Opd cs hx (fun _ => 0) (fun k => if k = 4 then ox else none) (upd fx_45 1 3) (fun _ _ => 0) (fun _ _ => none)]) (pcs := [wd_Prg cs (re 2) rp (fun k => if k = 2 then of else none) fp_45 (fun _ _ => 0) (fun _ _ => none), [((rp 1), .inl (cs 0, cn, .inl cd_45))]]) hw px_X.tt (px_recv hT hw 4 0 rfl rfl rfl) m4_181 m4_178 m4_179 m4_180 m1_16 q_Prg_emit ⟨Nat.le_of_ble_eq_true rfl, Nat.le_of_ble_eq_true rfl⟩ hl.1 rfl (Nat.le_of_ble_eq_true rfl) d_Exp_conclude_82 ⟨Nat.le_of_ble_eq_true rfl, Nat.le_of_ble_eq_true rfl⟩) hw hA (fun v60 p59 H locs hp59 hw => ?_)
        obtain ⟨fp57, cd58, rfl, hv_v60, hem, hwx, hsz, k0fp57, k4fp57, k5fp57, hR_fp57⟩ := hp59
        have tv_v60 : v60.toInt = (fp_45 3).toInt := by rw [hv_v60]
        have pm61 := hem.2.1
        have hrel := hrel.tr hem
        have pz62 := hrel.nm
        have hsl_fp57 : (fp57 3).toInt ≤ (fp_45 3).toInt + 4 := by omega
        clear hsz
        have hw : pw D A s.heap H locs [wd_Exp cs he re eo ef ea eg, wd_Tok cs (re 0) rt ot tf_45 ta tg, P, wd_Opd cs hx (fun _ => 0) (fun k => if k = 4 then ox else none) (upd fx_45 1 3) (fun _ _ => 0) (fun _ _ => none), wd_Prg cs (re 2) rp (fun k => if k = 2 then of else none) fp57 (fun _ _ => 0) (fun _ _ => none), [((rp 1), .inl (cs 0, cn, .inl cd58))]] := hw
        have lv60 := Int32.le_toInt v60
        have uv60 := Int32.toInt_lt v60
        refine lv_pop S.x S.b d_Exp_conclude_85 rfl ?_
        refine lv_goto (tgt := 130) S.x S.b d_Exp_conclude_86 (by decide) ?_
        have hw : pw D A s.heap _ _ [wd_Exp cs he re eo ef ea eg, wd_Tok cs (re 0) rt ot tf_45 ta tg, wd_Prg cs (re 2) rp (fun k => if k = 2 then of else none) fp57 (fun _ _ => 0) (fun _ _ => none), [((rp 1), .inl (cs 0, cn, .inl cd58))], P, wd_Opd cs hx (fun _ => 0) (fun k => if k = 4 then ox else none) (upd fx_45 1 3) (fun _ _ => 0) (fun _ _ => none)] := hw.sub [0, 1, 4, 5, 2, 3] rfl rfl
        exact px_vret S hr hlk hAe hw (Nat.le_of_ble_eq_true rfl) (Nat.le_of_ble_eq_true rfl) (⟨tf_45, fp57, cd58, (upd fx_45 1 3), rfl, (show CurOk (tf_45 10) (tf_45 13) (tf_45 14) (tf_45 15) (tf_45 17) (ta 0) from ⟨⟨by first | exact o1 | omega, by first | exact o2 | omega⟩, ⟨by first | exact o3 | omega, by first | exact o4 | omega⟩, ⟨by first | exact o5 | omega, by first | exact o6 | omega⟩, by first | exact o7 | omega, by omega, last_eq hlast (rfl)⟩), (show (tf_45 10).toInt = (tf 10).toInt from by first | exact k45_0 | omega), (show (tf_45 13).toInt = (tf 13).toInt from by first | exact k45_1 | omega), (show (tf_45 14).toInt = (tf 14).toInt from by first | exact k45_2 | omega), (show (tf_45 15).toInt = (tf 15).toInt from by first | exact k45_3 | omega), (show (fx_45 0).toInt = (fx 0).toInt from by first | exact k45_4 | omega), (show (fx_45 5).toInt = (fx 5).toInt from by first | exact k45_5 | omega), (show (fx_45 3).toInt = (fx 0).toInt from by first | exact k45_6 | omega), (show Prel cn (fp 3) cd (fp57 3) cd58 from hrel), (show (fp57 3).toInt ≤ (fp 3).toInt + 4 from by first | exact oz_3980c4833a k45_8 hsl_fp57 | omega), (show R_ex_conclude_r cn P fa p0 tf fp cd fx tf_45 fp57 cd58 (upd fx_45 1 3) from (k45_9 _ _ _ _ 1 (Or.inr (Or.inl ⟨rfl, rfl, rfl, rfl, rfl, rfl, jf, sf, hjf, Or.inr ⟨nc1, Or.inr ⟨nc33, fp57, cd58, v60, hR_fp57, rfl, rfl, rfl, rfl⟩⟩⟩))))⟩) d_Exp_conclude_130
  refine lv_aload_n S.x S.b d_Exp_conclude_0 rfl (lv_at hl 1 rfl) ?_
  refine lv_aload_n S.x S.b d_Exp_conclude_1 rfl (lv_at hl 1 rfl) ?_
  refine px_get S k_Opd hT hw 5 0 0 (v := .int (fx 0)) rfl rfl rfl (by decide) m4_218 d_Exp_conclude_2 ?_
  refine px_put S k_Opd hT hw 5 0 3 rfl rfl (by decide) m4_225 rfl rfl rfl (Nat.le_of_ble_eq_true rfl) d_Exp_conclude_5 (w' := wd_Opd cs hx (fun _ => 0) (fun k => if k = 4 then ox else none) (upd fx 3 (fx 0)) (fun _ _ => 0) (fun _ _ => none)) (ps' := [wd_Exp cs he re eo ef ea eg, wd_Tok cs (re 0) rt ot tf ta tg, wd_Prg cs (re 2) rp (fun k => if k = 2 then of else none) fp (fun _ _ => 0) (fun _ _ => none), [((rp 1), .inl (cs 0, cn, .inl cd))], P, wd_Opd cs hx (fun _ => 0) (fun k => if k = 4 then ox else none) (upd fx 3 (fx 0)) (fun _ _ => 0) (fun _ _ => none)]) rfl rfl (fun H locs hw => ?_)
  refine lv_aload_n S.x S.b d_Exp_conclude_8 rfl (lv_at hl 2 rfl) ?_
  refine lv_ifnonnull (tgt := 25) S.x S.b d_Exp_conclude_9 (by decide) ?_
  refine lv_iload_n S.x S.b d_Exp_conclude_25 rfl (lv_at hl 3 rfl) ?_
  refine lv_aload_n S.x S.b d_Exp_conclude_26 rfl (lv_at hl 2 rfl) ?_
  refine px_get S k_Sym hT hw 4 jf 4 (v := .int (sf 4)) rfl hjf rfl (by decide) m1_219 d_Exp_conclude_27 ?_
  refine lv_icmp_eq (tgt := 45) S.x S.b d_Exp_conclude_30 (by decide) (fun c63 => ?_) (fun c63 => ?_)
  · have nc63 : p0.toInt = (sf 4).toInt := (i_eq (x := p0) (y := (sf 4))).mp c63
    exact J45 tf fp cd (upd fx 3 (fx 0)) _ _ ls (show CurOk (tf 10) (tf 13) (tf 14) (tf 15) (tf 17) (ta 0) from ⟨⟨by first | exact o1 | omega, by first | exact o2 | omega⟩, ⟨by first | exact o3 | omega, by first | exact o4 | omega⟩, ⟨by first | exact o5 | omega, by first | exact o6 | omega⟩, by first | exact o7 | omega, by omega, last_eq hlast (rfl)⟩) (show (tf 10).toInt = (tf 10).toInt from rfl) (show (tf 13).toInt = (tf 13).toInt from rfl) (show (tf 14).toInt = (tf 14).toInt from rfl) (show (tf 15).toInt = (tf 15).toInt from rfl) (show (fx 0).toInt = (fx 0).toInt from rfl) (show (fx 5).toInt = (fx 5).toInt from rfl) (show (fx 0).toInt = (fx 0).toInt from rfl) (show Prel cn (fp 3) cd (fp 3) cd from hrel) (show (fp 3).toInt = (fp 3).toInt from rfl) (show K_ex_conclude_r_45 cn P fa p0 tf fp cd fx tf fp cd (upd fx 3 (fx 0)) from (fun y_f0 y_f1 y_f2 y_f3 k hE => Exists.intro (k + 1) (Or.inl ⟨rfl, jf, sf, hjf, Or.inl ⟨nc63, hE⟩⟩))) hw (lv_sub hl [0, 1, 2, 3] rfl)
  · have nc63 : ¬ p0.toInt = (sf 4).toInt := mt (i_eq (x := p0) (y := (sf 4))).mpr c63
    refine lv_aload_n S.x S.b d_Exp_conclude_33 rfl (lv_at hl 0 rfl) ?_
    refine px_get S k_Exp hT hw 0 0 0 (v := .ref (re 0)) rfl rfl rfl (by decide) m2_131 d_Exp_conclude_34 ?_
    refine lv_iconst (v := 4) S.x S.b d_Exp_conclude_37 (by decide) ?_
    refine lv_aload_n S.x S.b d_Exp_conclude_38 rfl (lv_at hl 1 rfl) ?_
    refine px_get S k_Opd hT hw 5 0 0 (v := .int (fx 0)) rfl rfl rfl (by decide) m4_218 d_Exp_conclude_39 ?_
    have hw : pw D A s.heap _ _ [wd_Exp cs he re eo ef ea eg, wd_Prg cs (re 2) rp (fun k => if k = 2 then of else none) fp (fun _ _ => 0) (fun _ _ => none), [((rp 1), .inl (cs 0, cn, .inl cd))], P, wd_Opd cs hx (fun _ => 0) (fun k => if k = 4 then ox else none) (upd fx 3 (fx 0)) (fun _ _ => 0) (fun _ _ => none), wd_Tok cs (re 0) rt ot tf ta tg] := hw.sub [0, 2, 3, 4, 5, 1] rfl rfl
    refine px_callv (pr := [wd_Exp cs he re eo ef ea eg, wd_Prg cs (re 2) rp (fun k => if k = 2 then of else none) fp (fun _ _ => 0) (fun _ _ => none), [((rp 1), .inl (cs 0, cn, .inl cd))], P, wd_Opd cs hx (fun _ => 0) (fun k => if k = 4 then ox else none) (upd fx 3 (fx 0)) (fun _ _ => 0) (fun _ _ => none)]) (px_runV (As := [.int 4, .int (fx 0)]) (rest := []) S (c_tk_blame l D cs (re 0) rt ot ta tg tf 4 (fx 0)  (show CurOk (tf 10) (tf 13) (tf 14) (tf 15) (tf 17) (ta 0) from ⟨⟨by first | exact o1 | omega, by first | exact o2 | omega⟩, ⟨by first | exact o3 | omega, by first | exact o4 | omega⟩, ⟨by first | exact o5 | omega, by first | exact o6 | omega⟩, by first | exact o7 | omega, by omega, last_eq hlast (rfl)⟩) (show 0 ≤ (fx 0).toInt from by first | exact g2 | omega) _) hT (pr := [wd_Exp cs he re eo ef ea eg, wd_Prg cs (re 2) rp (fun k => if k = 2 then of else none) fp (fun _ _ => 0) (fun _ _ => none), [((rp 1), .inl (cs 0, cn, .inl cd))], P, wd_Opd cs hx (fun _ => 0) (fun k => if k = 4 then ox else none) (upd fx 3 (fx 0)) (fun _ _ => 0) (fun _ _ => none)]) (pcs := [wd_Tok cs (re 0) rt ot tf ta tg]) hw px_X.tt (px_recv hT hw 5 0 rfl rfl rfl) m4_173 m4_170 m4_171 m4_172 m1_2 q_Tok_blame ⟨Nat.le_of_ble_eq_true rfl, Nat.le_of_ble_eq_true rfl⟩ hl.1 rfl (Nat.le_of_ble_eq_true rfl) d_Exp_conclude_42 ⟨Nat.le_of_ble_eq_true rfl, Nat.le_of_ble_eq_true rfl⟩) hw hA (fun p66 H locs hp66 hw => ?_)
    obtain ⟨tf65, rfl, h73, e68, e69, e70, e71, e72⟩ := hp66
    obtain ⟨⟨o1, o2⟩, ⟨o3, o4⟩, ⟨o5, o6⟩, o7, o8, hlast⟩ := h73
    have e68 : (tf65 10).toInt = (tf 10).toInt := e68
    have e69 : (tf65 14).toInt = (tf 14).toInt := e69
    have e70 : (tf65 15).toInt = (tf 15).toInt := e70
    have e71 : (tf65 13).toInt = (tf 13).toInt := e71
    have e72 : R_tk_blame (4 : Int32) (fx 0) tf tf65 := e72
    have hw : pw D A s.heap H locs [wd_Exp cs he re eo ef ea eg, wd_Prg cs (re 2) rp (fun k => if k = 2 then of else none) fp (fun _ _ => 0) (fun _ _ => none), [((rp 1), .inl (cs 0, cn, .inl cd))], P, wd_Opd cs hx (fun _ => 0) (fun k => if k = 4 then ox else none) (upd fx 3 (fx 0)) (fun _ _ => 0) (fun _ _ => none), wd_Tok cs (re 0) rt ot tf65 ta tg] := hw
    have hw : pw D A s.heap _ _ [wd_Exp cs he re eo ef ea eg, wd_Tok cs (re 0) rt ot tf65 ta tg, wd_Prg cs (re 2) rp (fun k => if k = 2 then of else none) fp (fun _ _ => 0) (fun _ _ => none), [((rp 1), .inl (cs 0, cn, .inl cd))], P, wd_Opd cs hx (fun _ => 0) (fun k => if k = 4 then ox else none) (upd fx 3 (fx 0)) (fun _ _ => 0) (fun _ _ => none)] := hw.sub [0, 5, 1, 2, 3, 4] rfl rfl
    exact J45 tf65 fp cd (upd fx 3 (fx 0)) _ _ ls (show CurOk (tf65 10) (tf65 13) (tf65 14) (tf65 15) (tf65 17) (ta 0) from ⟨⟨by first | exact o1 | omega, by first | exact o2 | omega⟩, ⟨by first | exact o3 | omega, by first | exact o4 | omega⟩, ⟨by first | exact o5 | omega, by first | exact o6 | omega⟩, by first | exact o7 | omega, by omega, last_eq hlast (rfl)⟩) (show (tf65 10).toInt = (tf 10).toInt from by first | exact e68 | omega) (show (tf65 13).toInt = (tf 13).toInt from by first | exact e71 | omega) (show (tf65 14).toInt = (tf 14).toInt from by first | exact e69 | omega) (show (tf65 15).toInt = (tf 15).toInt from by first | exact e70 | omega) (show (fx 0).toInt = (fx 0).toInt from rfl) (show (fx 5).toInt = (fx 5).toInt from rfl) (show (fx 0).toInt = (fx 0).toInt from rfl) (show Prel cn (fp 3) cd (fp 3) cd from hrel) (show (fp 3).toInt = (fp 3).toInt from rfl) (show K_ex_conclude_r_45 cn P fa p0 tf fp cd fx tf65 fp cd (upd fx 3 (fx 0)) from (fun y_f0 y_f1 y_f2 y_f3 k hE => Exists.intro (k + 1) (Or.inl ⟨rfl, jf, sf, hjf, Or.inr ⟨nc63, tf65, e72, hE⟩⟩))) hw (lv_sub hl [0, 1, 2, 3] rfl)
set_option maxHeartbeats 4000000 in
set_option maxRecDepth 100000 in
theorem c_ex_conclude (l : Launch) (D : va_G) (cs : Nat → ClassId) (he : Nat) (re : Nat → Nat) (eo : Nat → Option Nat) (ef : Nat → Int32) (ea : Nat → Nat → Int32) (eg : Nat → Nat → Option Nat) (rt : Nat → Nat) (ot : Nat → Option Nat) (ta : Nat → Nat → Int32) (tg : Nat → Nat → Option Nat) (tf : Nat → Int32) (rp : Nat → Nat) (of : Option Nat) (cn : Nat) (fp : Nat → Int32) (cd : Nat → Int32) (P : va_W) (hx : Nat) (ox : Option Nat) (fx : Nat → Int32) (p0 : Int32) (fo : Option Nat) (hinv0 : CurOk (tf 10) (tf 13) (tf 14) (tf 15) (tf 17) (ta 0)) (g0 : cn % 4 = 0) (g1 : cn ≤ 100000) (g2 : 0 ≤ (fx 0).toInt) (hpk : Pok cn (fp 3) cd) (hsy : Fy P fo) : MetV l y_Exp_conclude b_Exp_conclude 5 D cs 1 40 (0) (0) [.ref he, .ref hx, va_rf fo, .int p0] [wd_Exp cs he re eo ef ea eg, wd_Tok cs (re 0) rt ot tf ta tg, wd_Prg cs (re 2) rp (fun k => if k = 2 then of else none) fp (fun _ _ => 0) (fun _ _ => none), [((rp 1), .inl (cs 0, cn, .inl cd))], P, wd_Opd cs hx (fun _ => 0) (fun k => if k = 4 then ox else none) fx (fun _ _ => 0) (fun _ _ => none)] (fun _ => True) (fun ps => ∃ (tf' : Nat → Int32) (fp' : Nat → Int32) (cd' : Nat → Int32) (fx' : Nat → Int32), (ps = [wd_Exp cs he re eo ef ea eg, wd_Tok cs (re 0) rt ot tf' ta tg, wd_Prg cs (re 2) rp (fun k => if k = 2 then of else none) fp' (fun _ _ => 0) (fun _ _ => none), [((rp 1), .inl (cs 0, cn, .inl cd'))], P, wd_Opd cs hx (fun _ => 0) (fun k => if k = 4 then ox else none) fx' (fun _ _ => 0) (fun _ _ => none)]) ∧ (CurOk (tf' 10) (tf' 13) (tf' 14) (tf' 15) (tf' 17) (ta 0)) ∧ ((tf' 10).toInt = (tf 10).toInt) ∧ ((tf' 13).toInt = (tf 13).toInt) ∧ ((tf' 14).toInt = (tf 14).toInt) ∧ ((tf' 15).toInt = (tf 15).toInt) ∧ ((fx' 0).toInt = (fx 0).toInt) ∧ ((fx' 5).toInt = (fx 5).toInt) ∧ ((fx' 3).toInt = (fx 0).toInt) ∧ (Prel cn (fp 3) cd (fp' 3) cd') ∧ ((fp' 3).toInt ≤ (fp 3).toInt + 4) ∧ (R_ex_conclude cn P fo p0 tf fp cd fx tf' fp' cd' fx')) := by
  cases fo with
  | none => exact c_ex_conclude_n l D cs he re eo ef ea eg rt ot ta tg tf rp of cn fp cd P hx ox fx p0 hinv0 g0 g1 g2 hpk
  | some fa => exact c_ex_conclude_r l D cs he re eo ef ea eg rt ot ta tg tf rp of cn fp cd P hx ox fx p0 fa hinv0 g0 g1 g2 hpk hsy
abbrev b_Exp_drop : ByteArray := prog_3_method_6_code
def y_Exp_drop : MethodName := ⟨"HomeSystem$Expressions", "drop", "(LHomeSystem$Operand;)V"⟩
theorem d_Exp_drop_0 : decode b_Exp_drop 0 = .ok (.aload_n 1, 1) := by decide +kernel
theorem d_Exp_drop_1 : decode b_Exp_drop 1 = .ok (.getfield 79, 3) := by decide +kernel
theorem d_Exp_drop_4 : decode b_Exp_drop 4 = .ok (.iconst 3, 1) := by decide +kernel
theorem d_Exp_drop_5 : decode b_Exp_drop 5 = .ok (.if_icmp .eq 8, 3) := by decide +kernel
theorem d_Exp_drop_8 : decode b_Exp_drop 8 = .ok (.aload_n 0, 1) := by decide +kernel
theorem d_Exp_drop_9 : decode b_Exp_drop 9 = .ok (.aload_n 1, 1) := by decide +kernel
theorem d_Exp_drop_10 : decode b_Exp_drop 10 = .ok (.invokevirtual 51, 3) := by decide +kernel
theorem d_Exp_drop_13 : decode b_Exp_drop 13 = .ok (.aload_n 0, 1) := by decide +kernel
theorem d_Exp_drop_14 : decode b_Exp_drop 14 = .ok (.getfield 19, 3) := by decide +kernel
theorem d_Exp_drop_17 : decode b_Exp_drop 17 = .ok (.bipush 6, 2) := by decide +kernel
theorem d_Exp_drop_19 : decode b_Exp_drop 19 = .ok (.iconst 0, 1) := by decide +kernel
theorem d_Exp_drop_20 : decode b_Exp_drop 20 = .ok (.iconst 0, 1) := by decide +kernel
theorem d_Exp_drop_21 : decode b_Exp_drop 21 = .ok (.iconst 0, 1) := by decide +kernel
theorem d_Exp_drop_22 : decode b_Exp_drop 22 = .ok (.invokevirtual 106, 3) := by decide +kernel
theorem d_Exp_drop_25 : decode b_Exp_drop 25 = .ok (.pop, 1) := by decide +kernel
theorem d_Exp_drop_26 : decode b_Exp_drop 26 = .ok (.return_, 1) := by decide +kernel
theorem q_Exp_drop : px_y y_Exp_drop 1 := by unfold px_y; decide +kernel
set_option maxHeartbeats 4000000 in
set_option maxRecDepth 100000 in
theorem c_ex_drop (l : Launch) (D : va_G) (cs : Nat → ClassId) (he : Nat) (re : Nat → Nat) (eo : Nat → Option Nat) (ef : Nat → Int32) (ea : Nat → Nat → Int32) (eg : Nat → Nat → Option Nat) (rt : Nat → Nat) (ot : Nat → Option Nat) (ta : Nat → Nat → Int32) (tg : Nat → Nat → Option Nat) (tf : Nat → Int32) (rp : Nat → Nat) (of : Option Nat) (cn : Nat) (fp : Nat → Int32) (cd : Nat → Int32) (P : va_W) (hx : Nat) (ox : Option Nat) (fx : Nat → Int32)  (hinv0 : CurOk (tf 10) (tf 13) (tf 14) (tf 15) (tf 17) (ta 0)) (g0 : cn % 4 = 0) (g1 : cn ≤ 100000) (g2 : 0 ≤ (fx 0).toInt) (g3 : 0 ≤ (fx 3).toInt) (hpk : Pok cn (fp 3) cd) (hsx : Sy P ox) : MetV l y_Exp_drop b_Exp_drop 2 D cs 2 80 (0) (0) [.ref he, .ref hx] [wd_Exp cs he re eo ef ea eg, wd_Tok cs (re 0) rt ot tf ta tg, wd_Prg cs (re 2) rp (fun k => if k = 2 then of else none) fp (fun _ _ => 0) (fun _ _ => none), [((rp 1), .inl (cs 0, cn, .inl cd))], P, wd_Opd cs hx (fun _ => 0) (fun k => if k = 4 then ox else none) fx (fun _ _ => 0) (fun _ _ => none)] (fun _ => True) (fun ps => ∃ (tf' : Nat → Int32) (fp' : Nat → Int32) (cd' : Nat → Int32) (fx' : Nat → Int32), (ps = [wd_Exp cs he re eo ef ea eg, wd_Tok cs (re 0) rt ot tf' ta tg, wd_Prg cs (re 2) rp (fun k => if k = 2 then of else none) fp' (fun _ _ => 0) (fun _ _ => none), [((rp 1), .inl (cs 0, cn, .inl cd'))], P, wd_Opd cs hx (fun _ => 0) (fun k => if k = 4 then ox else none) fx' (fun _ _ => 0) (fun _ _ => none)]) ∧ (CurOk (tf' 10) (tf' 13) (tf' 14) (tf' 15) (tf' 17) (ta 0)) ∧ ((tf' 10).toInt = (tf 10).toInt) ∧ ((tf' 13).toInt = (tf 13).toInt) ∧ ((tf' 14).toInt = (tf 14).toInt) ∧ ((tf' 15).toInt = (tf 15).toInt) ∧ ((fx' 0).toInt = (fx 0).toInt) ∧ ((fx' 3).toInt = (fx 3).toInt) ∧ ((fx' 5).toInt = (fx 5).toInt) ∧ (Prel cn (fp 3) cd (fp' 3) cd') ∧ ((fp' 3).toInt ≤ (fp 3).toInt + 8) ∧ (R_ex_drop cn P ox tf fp cd fx tf' fp' cd' fx')) := by
  refine px_enter (by decide) (Nat.le_of_ble_eq_true rfl) ?_
  intro p e s m below meth c A ls hAe S hr hlk hnm hA hT hX hw hl
  have hl : lv_has ls 2 [(0, .ref he), (1, .ref hx)] := hl
  have cst0 : (0 : Int32).toInt = 0 := rfl
  have cst3 : (3 : Int32).toInt = 3 := rfl
  have cst6 : (6 : Int32).toInt = 6 := rfl
  obtain ⟨⟨o1, o2⟩, ⟨o3, o4⟩, ⟨o5, o6⟩, o7, o8, hlast⟩ := hinv0
  have hrel := Prel.rf hpk
  have pz0 := hrel.nm
  refine lv_aload_n S.x S.b d_Exp_drop_0 rfl (lv_at hl 1 rfl) ?_
  refine px_get S k_Opd hT hw 5 0 1 (v := .int (fx 1)) rfl rfl rfl (by decide) m4_221 d_Exp_drop_1 ?_
  refine lv_iconst (v := 3) S.x S.b d_Exp_drop_4 (by decide) ?_
  refine lv_icmp_eq (tgt := 13) S.x S.b d_Exp_drop_5 (by decide) (fun c1 => ?_) (fun c1 => ?_)
  · have nc1 : (fx 1).toInt = (3 : Int) := (i_eq (x := (fx 1)) (y := 3)).mp c1
    refine lv_aload_n S.x S.b d_Exp_drop_13 rfl (lv_at hl 0 rfl) ?_
    refine px_get S k_Exp hT hw 0 0 2 (v := .ref (re 2)) rfl rfl rfl (by decide) m2_133 d_Exp_drop_14 ?_
    refine lv_bipush (v := 6) S.x S.b d_Exp_drop_17 (by decide) ?_
    refine lv_iconst (v := 0) S.x S.b d_Exp_drop_19 (by decide) ?_
    refine lv_iconst (v := 0) S.x S.b d_Exp_drop_20 (by decide) ?_
    refine lv_iconst (v := 0) S.x S.b d_Exp_drop_21 (by decide) ?_
    have hw : pw D A s.heap _ _ [wd_Exp cs he re eo ef ea eg, wd_Tok cs (re 0) rt ot tf ta tg, P, wd_Opd cs hx (fun _ => 0) (fun k => if k = 4 then ox else none) fx (fun _ _ => 0) (fun _ _ => none), wd_Prg cs (re 2) rp (fun k => if k = 2 then of else none) fp (fun _ _ => 0) (fun _ _ => none), [((rp 1), .inl (cs 0, cn, .inl cd))]] := hw.sub [0, 1, 4, 5, 2, 3] rfl rfl
    refine px_calli (pr := [wd_Exp cs he re eo ef ea eg, wd_Tok cs (re 0) rt ot tf ta tg, P, wd_Opd cs hx (fun _ => 0) (fun k => if k = 4 then ox else none) fx (fun _ _ => 0) (fun _ _ => none)]) (px_runV (As := [.int 6, .int 0, .int 0, .int 0]) (rest := []) S (c_pe_emit l D cs (re 2) rp of cn fp cd 6 0 0 0  (show cn % 4 = 0 from by first | exact g0 | omega) (show cn ≤ 100000 from by first | exact g1 | omega) hrel.1 (jop_low (by decide)) _) hT (pr := [wd_Exp cs he re eo ef ea eg, wd_Tok cs (re 0) rt ot tf ta tg, P, wd_Opd cs hx (fun _ => 0) (fun k => if k = 4 then ox else none) fx (fun _ _ => 0) (fun _ _ => none)]) (pcs := [wd_Prg cs (re 2) rp (fun k => if k = 2 then of else none) fp (fun _ _ => 0) (fun _ _ => none), [((rp 1), .inl (cs 0, cn, .inl cd))]]) hw px_X.tt (px_recv hT hw 4 0 rfl rfl rfl) m4_181 m4_178 m4_179 m4_180 m1_16 q_Prg_emit ⟨Nat.le_of_ble_eq_true rfl, Nat.le_of_ble_eq_true rfl⟩ hl.1 rfl (Nat.le_of_ble_eq_true rfl) d_Exp_drop_22 ⟨Nat.le_of_ble_eq_true rfl, Nat.le_of_ble_eq_true rfl⟩) hw hA (fun v8 p7 H locs hp7 hw => ?_)
    obtain ⟨fp5, cd6, rfl, hv_v8, hem, hwx, hsz, k0fp5, k4fp5, k5fp5, hR_fp5⟩ := hp7
    have tv_v8 : v8.toInt = (fp 3).toInt := by rw [hv_v8]
    have pm9 := hem.2.1
    have hrel := hrel.tr hem
    have pz10 := hrel.nm
    have hsl_fp5 : (fp5 3).toInt ≤ (fp 3).toInt + 4 := by omega
    clear hsz
    have hw : pw D A s.heap H locs [wd_Exp cs he re eo ef ea eg, wd_Tok cs (re 0) rt ot tf ta tg, P, wd_Opd cs hx (fun _ => 0) (fun k => if k = 4 then ox else none) fx (fun _ _ => 0) (fun _ _ => none), wd_Prg cs (re 2) rp (fun k => if k = 2 then of else none) fp5 (fun _ _ => 0) (fun _ _ => none), [((rp 1), .inl (cs 0, cn, .inl cd6))]] := hw
    have lv8 := Int32.le_toInt v8
    have uv8 := Int32.toInt_lt v8
    refine lv_pop S.x S.b d_Exp_drop_25 rfl ?_
    have hw : pw D A s.heap _ _ [wd_Exp cs he re eo ef ea eg, wd_Tok cs (re 0) rt ot tf ta tg, wd_Prg cs (re 2) rp (fun k => if k = 2 then of else none) fp5 (fun _ _ => 0) (fun _ _ => none), [((rp 1), .inl (cs 0, cn, .inl cd6))], P, wd_Opd cs hx (fun _ => 0) (fun k => if k = 4 then ox else none) fx (fun _ _ => 0) (fun _ _ => none)] := hw.sub [0, 1, 4, 5, 2, 3] rfl rfl
    exact px_vret S hr hlk hAe hw (Nat.le_of_ble_eq_true rfl) (Nat.le_of_ble_eq_true rfl) (⟨tf, fp5, cd6, fx, rfl, (show CurOk (tf 10) (tf 13) (tf 14) (tf 15) (tf 17) (ta 0) from ⟨⟨by first | exact o1 | omega, by first | exact o2 | omega⟩, ⟨by first | exact o3 | omega, by first | exact o4 | omega⟩, ⟨by first | exact o5 | omega, by first | exact o6 | omega⟩, by first | exact o7 | omega, by omega, last_eq hlast (rfl)⟩), (show (tf 10).toInt = (tf 10).toInt from rfl), (show (tf 13).toInt = (tf 13).toInt from rfl), (show (tf 14).toInt = (tf 14).toInt from rfl), (show (tf 15).toInt = (tf 15).toInt from rfl), (show (fx 0).toInt = (fx 0).toInt from rfl), (show (fx 3).toInt = (fx 3).toInt from rfl), (show (fx 5).toInt = (fx 5).toInt from rfl), (show Prel cn (fp 3) cd (fp5 3) cd6 from hrel), (show (fp5 3).toInt ≤ (fp 3).toInt + 8 from by first | exact oz_26f57824b4 hsl_fp5 | omega), (show R_ex_drop cn P ox tf fp cd fx tf fp5 cd6 fx from (Or.inl (Or.inl ⟨nc1, fp5, cd6, v8, hR_fp5, rfl, rfl, rfl, rfl⟩)))⟩) d_Exp_drop_26
  · have nc1 : ¬ (fx 1).toInt = (3 : Int) := mt (i_eq (x := (fx 1)) (y := 3)).mpr c1
    refine lv_aload_n S.x S.b d_Exp_drop_8 rfl (lv_at hl 0 rfl) ?_
    refine lv_aload_n S.x S.b d_Exp_drop_9 rfl (lv_at hl 1 rfl) ?_
    refine px_callv (pr := []) (px_runV (As := [.ref hx]) (rest := []) S (c_ex_number l D cs he re eo ef ea eg rt ot ta tg tf rp of cn fp cd P hx ox fx   (show CurOk (tf 10) (tf 13) (tf 14) (tf 15) (tf 17) (ta 0) from ⟨⟨by first | exact o1 | omega, by first | exact o2 | omega⟩, ⟨by first | exact o3 | omega, by first | exact o4 | omega⟩, ⟨by first | exact o5 | omega, by first | exact o6 | omega⟩, by first | exact o7 | omega, by omega, last_eq hlast (rfl)⟩) (show cn % 4 = 0 from by first | exact g0 | omega) (show cn ≤ 100000 from by first | exact g1 | omega) (show 0 ≤ (fx 0).toInt from by first | exact g2 | omega) (show 0 ≤ (fx 3).toInt from by first | exact g3 | omega) hrel.1 (by first | assumption | exact sy_none | exact fy_none | exact Fy.sy (by assumption) | exact sy_some (by assumption)) _) hT (pr := []) (pcs := [wd_Exp cs he re eo ef ea eg, wd_Tok cs (re 0) rt ot tf ta tg, wd_Prg cs (re 2) rp (fun k => if k = 2 then of else none) fp (fun _ _ => 0) (fun _ _ => none), [((rp 1), .inl (cs 0, cn, .inl cd))], P, wd_Opd cs hx (fun _ => 0) (fun k => if k = 4 then ox else none) fx (fun _ _ => 0) (fun _ _ => none)]) hw px_X.tt (px_recv hT hw 0 0 rfl rfl rfl) m4_189 m4_186 m4_187 m4_188 m1_17 q_Exp_number ⟨Nat.le_of_ble_eq_true rfl, Nat.le_of_ble_eq_true rfl⟩ hl.1 rfl (Nat.le_of_ble_eq_true rfl) d_Exp_drop_10 ⟨Nat.le_of_ble_eq_true rfl, Nat.le_of_ble_eq_true rfl⟩) hw hA (fun p19 H locs hp19 hw => ?_)
    obtain ⟨tf15, fp16, cd17, fx18, rfl, h31, e21, e22, e23, e24, e25, e26, e27, e28, e29, e30⟩ := hp19
    obtain ⟨⟨o1, o2⟩, ⟨o3, o4⟩, ⟨o5, o6⟩, o7, o8, hlast⟩ := h31
    have e21 : (tf15 10).toInt = (tf 10).toInt := e21
    have e22 : (tf15 13).toInt = (tf 13).toInt := e22
    have e23 : (tf15 14).toInt = (tf 14).toInt := e23
    have e24 : (tf15 15).toInt = (tf 15).toInt := e24
    have e25 : (fx18 0).toInt = (fx 0).toInt := e25
    have e26 : (fx18 3).toInt = (fx 3).toInt := e26
    have e27 : (fx18 5).toInt = (fx 5).toInt := e27
    have e28 : Prel cn (fp 3) cd (fp16 3) cd17 := e28
    have pm32 := e28.2.1
    have hrel := hrel.tr e28
    have pz33 := hrel.nm
    have e29 : (fp16 3).toInt ≤ (fp 3).toInt + 4 := e29
    have e30 : R_ex_number cn P ox tf fp cd fx tf15 fp16 cd17 fx18 := e30
    have hw : pw D A s.heap H locs [wd_Exp cs he re eo ef ea eg, wd_Tok cs (re 0) rt ot tf15 ta tg, wd_Prg cs (re 2) rp (fun k => if k = 2 then of else none) fp16 (fun _ _ => 0) (fun _ _ => none), [((rp 1), .inl (cs 0, cn, .inl cd17))], P, wd_Opd cs hx (fun _ => 0) (fun k => if k = 4 then ox else none) fx18 (fun _ _ => 0) (fun _ _ => none)] := hw
    refine lv_aload_n S.x S.b d_Exp_drop_13 rfl (lv_at hl 0 rfl) ?_
    refine px_get S k_Exp hT hw 0 0 2 (v := .ref (re 2)) rfl rfl rfl (by decide) m2_133 d_Exp_drop_14 ?_
    refine lv_bipush (v := 6) S.x S.b d_Exp_drop_17 (by decide) ?_
    refine lv_iconst (v := 0) S.x S.b d_Exp_drop_19 (by decide) ?_
    refine lv_iconst (v := 0) S.x S.b d_Exp_drop_20 (by decide) ?_
    refine lv_iconst (v := 0) S.x S.b d_Exp_drop_21 (by decide) ?_
    have hw : pw D A s.heap _ _ [wd_Exp cs he re eo ef ea eg, wd_Tok cs (re 0) rt ot tf15 ta tg, P, wd_Opd cs hx (fun _ => 0) (fun k => if k = 4 then ox else none) fx18 (fun _ _ => 0) (fun _ _ => none), wd_Prg cs (re 2) rp (fun k => if k = 2 then of else none) fp16 (fun _ _ => 0) (fun _ _ => none), [((rp 1), .inl (cs 0, cn, .inl cd17))]] := hw.sub [0, 1, 4, 5, 2, 3] rfl rfl
    refine px_calli (pr := [wd_Exp cs he re eo ef ea eg, wd_Tok cs (re 0) rt ot tf15 ta tg, P, wd_Opd cs hx (fun _ => 0) (fun k => if k = 4 then ox else none) fx18 (fun _ _ => 0) (fun _ _ => none)]) (px_runV (As := [.int 6, .int 0, .int 0, .int 0]) (rest := []) S (c_pe_emit l D cs (re 2) rp of cn fp16 cd17 6 0 0 0  (show cn % 4 = 0 from by first | exact g0 | omega) (show cn ≤ 100000 from by first | exact g1 | omega) hrel.1 (jop_low (by decide)) _) hT (pr := [wd_Exp cs he re eo ef ea eg, wd_Tok cs (re 0) rt ot tf15 ta tg, P, wd_Opd cs hx (fun _ => 0) (fun k => if k = 4 then ox else none) fx18 (fun _ _ => 0) (fun _ _ => none)]) (pcs := [wd_Prg cs (re 2) rp (fun k => if k = 2 then of else none) fp16 (fun _ _ => 0) (fun _ _ => none), [((rp 1), .inl (cs 0, cn, .inl cd17))]]) hw px_X.tt (px_recv hT hw 4 0 rfl rfl rfl) m4_181 m4_178 m4_179 m4_180 m1_16 q_Prg_emit ⟨Nat.le_of_ble_eq_true rfl, Nat.le_of_ble_eq_true rfl⟩ hl.1 rfl (Nat.le_of_ble_eq_true rfl) d_Exp_drop_22 ⟨Nat.le_of_ble_eq_true rfl, Nat.le_of_ble_eq_true rfl⟩) hw hA (fun v39 p38 H locs hp38 hw => ?_)
    obtain ⟨fp36, cd37, rfl, hv_v39, hem, hwx, hsz, k0fp36, k4fp36, k5fp36, hR_fp36⟩ := hp38
    have tv_v39 : v39.toInt = (fp16 3).toInt := by rw [hv_v39]
    have pm40 := hem.2.1
    have hrel := hrel.tr hem
    have pz41 := hrel.nm
    have hsl_fp36 : (fp36 3).toInt ≤ (fp16 3).toInt + 4 := by omega
    clear hsz
    have hw : pw D A s.heap H locs [wd_Exp cs he re eo ef ea eg, wd_Tok cs (re 0) rt ot tf15 ta tg, P, wd_Opd cs hx (fun _ => 0) (fun k => if k = 4 then ox else none) fx18 (fun _ _ => 0) (fun _ _ => none), wd_Prg cs (re 2) rp (fun k => if k = 2 then of else none) fp36 (fun _ _ => 0) (fun _ _ => none), [((rp 1), .inl (cs 0, cn, .inl cd37))]] := hw
    have lv39 := Int32.le_toInt v39
    have uv39 := Int32.toInt_lt v39
    refine lv_pop S.x S.b d_Exp_drop_25 rfl ?_
    have hw : pw D A s.heap _ _ [wd_Exp cs he re eo ef ea eg, wd_Tok cs (re 0) rt ot tf15 ta tg, wd_Prg cs (re 2) rp (fun k => if k = 2 then of else none) fp36 (fun _ _ => 0) (fun _ _ => none), [((rp 1), .inl (cs 0, cn, .inl cd37))], P, wd_Opd cs hx (fun _ => 0) (fun k => if k = 4 then ox else none) fx18 (fun _ _ => 0) (fun _ _ => none)] := hw.sub [0, 1, 4, 5, 2, 3] rfl rfl
    exact px_vret S hr hlk hAe hw (Nat.le_of_ble_eq_true rfl) (Nat.le_of_ble_eq_true rfl) (⟨tf15, fp36, cd37, fx18, rfl, (show CurOk (tf15 10) (tf15 13) (tf15 14) (tf15 15) (tf15 17) (ta 0) from ⟨⟨by first | exact o1 | omega, by first | exact o2 | omega⟩, ⟨by first | exact o3 | omega, by first | exact o4 | omega⟩, ⟨by first | exact o5 | omega, by first | exact o6 | omega⟩, by first | exact o7 | omega, by omega, last_eq hlast (rfl)⟩), (show (tf15 10).toInt = (tf 10).toInt from by first | exact e21 | omega), (show (tf15 13).toInt = (tf 13).toInt from by first | exact e22 | omega), (show (tf15 14).toInt = (tf 14).toInt from by first | exact e23 | omega), (show (tf15 15).toInt = (tf 15).toInt from by first | exact e24 | omega), (show (fx18 0).toInt = (fx 0).toInt from by first | exact e25 | omega), (show (fx18 3).toInt = (fx 3).toInt from by first | exact e26 | omega), (show (fx18 5).toInt = (fx 5).toInt from by first | exact e27 | omega), (show Prel cn (fp 3) cd (fp36 3) cd37 from hrel), (show (fp36 3).toInt ≤ (fp 3).toInt + 8 from by first | exact oz_c42f88acc2 e29 hsl_fp36 | omega), (show R_ex_drop cn P ox tf fp cd fx tf15 fp36 cd37 fx18 from (Or.inl (Or.inr ⟨nc1, tf15, fp16, cd17, fx18, e30, fp36, cd37, v39, hR_fp36, rfl, rfl, rfl, rfl⟩)))⟩) d_Exp_drop_26
