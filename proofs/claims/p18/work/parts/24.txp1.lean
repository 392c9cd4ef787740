theorem oz_016f458179 {a0 : Int} {n1 : Nat} (h0 : (n1 : Int) = a0) : 0 ≤ a0 := by omega
theorem oz_25a5477edf {a2 a3 : Int} {n0 n1 : Nat} (h0 : (n0 : Int) = a2) (h1 : (n1 : Int) = a3) (h2 : a2 = 3 * a3) : n0 = 3 * n1 := by omega
theorem oz_ae613611c0 {a0 a1 : Int} (h0 : a0 = a1 + 1) (h1 : 0 ≤ a1) : 0 ≤ a0 := by omega
theorem oz_7d1a308c7e  : (0 : Int) = 0 := by omega
theorem oz_037caa6b79 {a0 a1 : Int} (h0 : a0 = a1 + (1 : Int)) : a0 = a1 + 1 := by omega
theorem oz_453f5876af  : (-2 : Int) = -2 := by omega
theorem oz_48695ba6d4 {a0 : Int} (h0 : ¬ a0 < (0 : Int)) (h1 : ¬ (8704 : Int) ≤ a0) : 0 ≤ a0 ∧ a0 < ((8704 : Nat) : Int) := by omega
theorem oz_b3b25f0e49 {a0 a1 : Int} (h0 : a0 = a1 + (1 : Int)) (h1 : 0 ≤ a1) : 0 ≤ a0 := by omega
theorem oz_675fb4090f {a0 a1 : Int} (h0 : a0 = a1 + (1 : Int)) (h1 : ¬ (516 : Int) ≤ a1) : a0 ≤ 516 := by omega
theorem oz_c060c3d60c {a0 : Int} (h0 : 0 ≤ a0) (h1 : a0 ≤ (0 : Int)) : 0 ≤ a0 ∧ a0 < ((516 : Nat) : Int) := by omega
theorem oz_b341981ef4 {a0 a1 : Int} (h0 : a0 = a1 - (1 : Int)) (h1 : ¬ a1 ≤ (0 : Int)) (h2 : a1 ≤ 516) : 0 ≤ a0 ∧ a0 < ((516 : Nat) : Int) := by omega
theorem oz_45420e1a93 {a0 a1 : Int} (h0 : a0 = a1 - (1 : Int)) (h1 : ¬ a1 ≤ (0 : Int)) : 0 ≤ a0 := by omega
theorem oz_f3c6005390 {a0 a1 : Int} (h0 : a0 = a1 - (1 : Int)) (h1 : a1 ≤ 516) : a0 ≤ 516 := by omega
theorem oz_e13fc83238 {a0 a1 a2 a3 : Int} (h0 : a2 = a1) (h1 : a0 = a3) (h2 : a3 = a2) : a0 = a1 := by omega
theorem oz_96aae3e9d2 {a0 a1 a2 a3 : Int} (h0 : a0 = a1) (h1 : a1 = a2) (h2 : a2 = a3) (h3 : a3 = 0) (h4 : 0 ≤ a0) : a0 = 0 := by omega
theorem oz_229fe14250 {a0 a1 : Int} (h0 : a0 = a1 - (1 : Int)) (h1 : 0 ≤ a1) (h2 : ¬ a1 = (0 : Int)) : 0 ≤ a0 := by omega
theorem oz_c2ccfb1ff9 {a0 a1 : Int} (h0 : a0 = a1 - (1 : Int)) (h1 : a1 ≤ 100) : a0 ≤ 100 := by omega
theorem oz_3c7696f187 {a0 a1 a2 a3 : Int} (h0 : a0 + a3 + a2 ≤ 100) (h1 : a1 = a3 - (1 : Int)) : a0 + a1 + a2 ≤ 100 := by omega
theorem oz_143d7f65a4 {a0 a1 : Int} (h0 : a0 = a1 - (1 : Int)) : a0 ≤ a1 := by omega
theorem oz_5b5f5658b9 {a0 a1 : Int} (h0 : a0 = a1) : a0 ≤ a1 := by omega
theorem oz_a485ce6081 {a0 a1 : Int} (h0 : a0 = 3 * a1) (h1 : 0 ≤ a1) (h2 : a1 ≤ (0 : Int)) : 0 ≤ a0 ∧ a0 < ((303 : Nat) : Int) := by omega
theorem oz_be54272558 {a0 a1 a2 : Int} (h0 : a0 = a1 + (1 : Int)) (h1 : a1 = 3 * a2) (h2 : 0 ≤ a2) (h3 : a2 ≤ (0 : Int)) : 0 ≤ a0 ∧ a0 < ((303 : Nat) : Int) := by omega
theorem oz_e9c1072bd1 {a0 a1 a2 : Int} (h0 : a0 = a1 + (2 : Int)) (h1 : a1 = 3 * a2) (h2 : 0 ≤ a2) (h3 : a2 ≤ (0 : Int)) : 0 ≤ a0 ∧ a0 < ((303 : Nat) : Int) := by omega
theorem oz_1e53113f2d {a0 a1 a2 : Int} (h0 : a0 = 3 * a1) (h1 : a1 = a2 - (1 : Int)) (h2 : ¬ a2 ≤ (0 : Int)) (h3 : a2 ≤ 101) : 0 ≤ a0 ∧ a0 < ((303 : Nat) : Int) := by omega
theorem oz_1971fd3488 {a0 a1 a2 a3 : Int} (h0 : a0 = a1 + (1 : Int)) (h1 : a1 = 3 * a2) (h2 : a2 = a3 - (1 : Int)) (h3 : ¬ a3 ≤ (0 : Int)) (h4 : a3 ≤ 101) : 0 ≤ a0 ∧ a0 < ((303 : Nat) : Int) := by omega
theorem oz_4e6e9131e1 {a0 a1 a2 a3 : Int} (h0 : a0 = a1 + (2 : Int)) (h1 : a1 = 3 * a2) (h2 : a2 = a3 - (1 : Int)) (h3 : ¬ a3 ≤ (0 : Int)) (h4 : a3 ≤ 101) : 0 ≤ a0 ∧ a0 < ((303 : Nat) : Int) := by omega
theorem oz_ecd2116815 {a0 a1 : Int} (h0 : a0 = a1 - (1 : Int)) (h1 : a1 ≤ 101) : a0 ≤ 101 := by omega
theorem oz_1285e5f113  : (1 : Int) = 1 := by omega
theorem m2_103 : Cond.fieldLink "HomeSystem$Program" 15 "HomeSystem$Program" "functions" "[I" ∈ AL := AL_2 (List.mem_of_getElem? (i := 103) rfl) rfl
theorem m6_213 : Cond.fieldLink "HomeSystem$TextProcess" 9 "HomeSystem$TextProcess" "memory" "[I" ∈ AL := AL_6 (List.mem_of_getElem? (i := 213) rfl) rfl
theorem m6_218 : Cond.fieldLink "HomeSystem$TextProcess" 44 "HomeSystem$TextProcess" "held" "I" ∈ AL := AL_6 (List.mem_of_getElem? (i := 218) rfl) rfl
theorem m6_214 : Cond.fieldLink "HomeSystem$TextProcess" 15 "HomeSystem$TextProcess" "hand" "[I" ∈ AL := AL_6 (List.mem_of_getElem? (i := 214) rfl) rfl
theorem m6_219 : Cond.fieldLink "HomeSystem$TextProcess" 50 "HomeSystem$TextProcess" "frame" "I" ∈ AL := AL_6 (List.mem_of_getElem? (i := 219) rfl) rfl
theorem m8_143 : Cond.methodLink "HomeSystem$TextProcess" 94 ⟨"HomeSystem$TextProcess", "peek", "(I)I"⟩ ∈ AL := AL_8 (List.mem_of_getElem? (i := 143) rfl) rfl
theorem m8_146 : Cond.code ⟨"HomeSystem$TextProcess", "peek", "(I)I"⟩ prog_11_method_8_code 2 (Option.some FieldType.int) ∈ AL := AL_8 (List.mem_of_getElem? (i := 146) rfl) rfl
theorem m1_35 : Cond.initialized "HomeSystem$TextProcess" ∈ AL := AL_1 (List.mem_of_getElem? (i := 35) rfl) rfl
theorem ms_5_15 : Cond.selects "HomeSystem$TextProcess" ⟨"HomeSystem$TextProcess", "peek", "(I)I"⟩ ⟨"HomeSystem$TextProcess", "peek", "(I)I"⟩ ∈ AL := AL_p (q := (⟨"HomeSystem$TextProcess", "peek", "(I)I"⟩, 25)) (by unfold lw_privs; exact List.mem_append_right _ (List.mem_append_right _ (List.mem_append_right _ (List.mem_append_right _ (List.mem_append_left _ (List.mem_of_getElem? (i := 15) rfl))))))
theorem m8_145 : Cond.instanceMethod ⟨"HomeSystem$TextProcess", "peek", "(I)I"⟩ ∈ AL := AL_8 (List.mem_of_getElem? (i := 145) rfl) rfl
theorem m6_225 : Cond.fieldLink "HomeSystem$TextProcess" 149 "HomeSystem$TextProcess" "shift" "I" ∈ AL := AL_6 (List.mem_of_getElem? (i := 225) rfl) rfl
theorem m6_224 : Cond.fieldLink "HomeSystem$TextProcess" 152 "HomeSystem$TextProcess" "cell" "I" ∈ AL := AL_6 (List.mem_of_getElem? (i := 224) rfl) rfl
theorem m8_126 : Cond.methodLink "HomeSystem$TextProcess" 98 ⟨"HomeSystem$TextProcess", "poke", "(II)V"⟩ ∈ AL := AL_8 (List.mem_of_getElem? (i := 126) rfl) rfl
theorem m8_129 : Cond.code ⟨"HomeSystem$TextProcess", "poke", "(II)V"⟩ prog_11_method_9_code 3 (Option.none : Option Jvm.ClassFile.FieldType) ∈ AL := AL_8 (List.mem_of_getElem? (i := 129) rfl) rfl
theorem ms_5_13 : Cond.selects "HomeSystem$TextProcess" ⟨"HomeSystem$TextProcess", "poke", "(II)V"⟩ ⟨"HomeSystem$TextProcess", "poke", "(II)V"⟩ ∈ AL := AL_p (q := (⟨"HomeSystem$TextProcess", "poke", "(II)V"⟩, 25)) (by unfold lw_privs; exact List.mem_append_right _ (List.mem_append_right _ (List.mem_append_right _ (List.mem_append_right _ (List.mem_append_left _ (List.mem_of_getElem? (i := 13) rfl))))))
theorem m8_128 : Cond.instanceMethod ⟨"HomeSystem$TextProcess", "poke", "(II)V"⟩ ∈ AL := AL_8 (List.mem_of_getElem? (i := 128) rfl) rfl
theorem m9_12 : Cond.methodLink "HomeSystem$TextProcess" 119 ⟨"HomeSystem$TextProcess", "pop", "()I"⟩ ∈ AL := AL_9 (List.mem_of_getElem? (i := 12) rfl) rfl
theorem m9_15 : Cond.code ⟨"HomeSystem$TextProcess", "pop", "()I"⟩ prog_11_method_11_code 1 (Option.some FieldType.int) ∈ AL := AL_9 (List.mem_of_getElem? (i := 15) rfl) rfl
theorem ms_7_0 : Cond.selects "HomeSystem$TextProcess" ⟨"HomeSystem$TextProcess", "pop", "()I"⟩ ⟨"HomeSystem$TextProcess", "pop", "()I"⟩ ∈ AL := AL_p (q := (⟨"HomeSystem$TextProcess", "pop", "()I"⟩, 25)) (by unfold lw_privs; exact List.mem_append_right _ (List.mem_append_right _ (List.mem_append_right _ (List.mem_append_right _ (List.mem_append_right _ (List.mem_append_right _ (List.mem_append_left _ (List.mem_of_getElem? (i := 0) rfl))))))))
theorem m9_14 : Cond.instanceMethod ⟨"HomeSystem$TextProcess", "pop", "()I"⟩ ∈ AL := AL_9 (List.mem_of_getElem? (i := 14) rfl) rfl
theorem m9_60n : Cond.methodLinkNest "HomeSystem$TextProcess" 142 ⟨"HomeSystem", "byZero", "(II)Z"⟩ "HomeSystem" ∈ tables_1 := by unfold tables_1; exact List.mem_append_right _ (List.mem_append_right _ (List.mem_append_right _ (List.mem_append_right _ (List.mem_append_right _ (List.mem_append_right _ (List.mem_append_right _ (List.mem_append_right _ (List.mem_append_left _ (List.mem_of_getElem? (i := 60) rfl)))))))))
theorem m5_97 : Cond.code ⟨"HomeSystem", "byZero", "(II)Z"⟩ prog_1_method_22_code 2 (Option.some FieldType.boolean) ∈ AL := AL_5 (List.mem_of_getElem? (i := 97) rfl) rfl
theorem m1_1 : Cond.initialized "HomeSystem" ∈ AL := AL_1 (List.mem_of_getElem? (i := 1) rfl) rfl
theorem m5_96 : Cond.static ⟨"HomeSystem", "byZero", "(II)Z"⟩ ∈ AL := AL_5 (List.mem_of_getElem? (i := 96) rfl) rfl
theorem m9_61n : Cond.methodLinkNest "HomeSystem$TextProcess" 146 ⟨"HomeSystem", "reckon", "(III)I"⟩ "HomeSystem" ∈ tables_1 := by unfold tables_1; exact List.mem_append_right _ (List.mem_append_right _ (List.mem_append_right _ (List.mem_append_right _ (List.mem_append_right _ (List.mem_append_right _ (List.mem_append_right _ (List.mem_append_right _ (List.mem_append_left _ (List.mem_of_getElem? (i := 61) rfl)))))))))
theorem m5_100 : Cond.code ⟨"HomeSystem", "reckon", "(III)I"⟩ prog_1_method_20_code 3 (Option.some FieldType.int) ∈ AL := AL_5 (List.mem_of_getElem? (i := 100) rfl) rfl
theorem m5_99 : Cond.static ⟨"HomeSystem", "reckon", "(III)I"⟩ ∈ AL := AL_5 (List.mem_of_getElem? (i := 99) rfl) rfl
theorem m8_44 : Cond.methodLink "HomeSystem$TextProcess" 74 ⟨"HomeSystem$TextProcess", "push", "(I)V"⟩ ∈ AL := AL_8 (List.mem_of_getElem? (i := 44) rfl) rfl
theorem m8_47 : Cond.code ⟨"HomeSystem$TextProcess", "push", "(I)V"⟩ prog_11_method_10_code 2 (Option.none : Option Jvm.ClassFile.FieldType) ∈ AL := AL_8 (List.mem_of_getElem? (i := 47) rfl) rfl
theorem ms_5_6 : Cond.selects "HomeSystem$TextProcess" ⟨"HomeSystem$TextProcess", "push", "(I)V"⟩ ⟨"HomeSystem$TextProcess", "push", "(I)V"⟩ ∈ AL := AL_p (q := (⟨"HomeSystem$TextProcess", "push", "(I)V"⟩, 25)) (by unfold lw_privs; exact List.mem_append_right _ (List.mem_append_right _ (List.mem_append_right _ (List.mem_append_right _ (List.mem_append_left _ (List.mem_of_getElem? (i := 6) rfl))))))
theorem m8_46 : Cond.instanceMethod ⟨"HomeSystem$TextProcess", "push", "(I)V"⟩ ∈ AL := AL_8 (List.mem_of_getElem? (i := 46) rfl) rfl
theorem m9_5 : Cond.methodLink "HomeSystem$TextProcess" 105 ⟨"HomeSystem$TextProcess", "finish", "(II)V"⟩ ∈ AL := AL_9 (List.mem_of_getElem? (i := 5) rfl) rfl
theorem m9_6 : Cond.sameMethod "HomeSystem$TextProcess" "HomeSystem$AnyProcess" "finish" "(II)V" ∈ AL := AL_9 (List.mem_of_getElem? (i := 6) rfl) rfl
theorem m9_7 : Cond.selects "HomeSystem$TextProcess" ⟨"HomeSystem$TextProcess", "finish", "(II)V"⟩ ⟨"HomeSystem$AnyProcess", "finish", "(II)V"⟩ ∈ AL := AL_9 (List.mem_of_getElem? (i := 7) rfl) rfl
theorem m6_222 : Cond.fieldLink "HomeSystem$TextProcess" 29 "HomeSystem$TextProcess" "work" "I" ∈ AL := AL_6 (List.mem_of_getElem? (i := 222) rfl) rfl
theorem m6_221 : Cond.fieldLink "HomeSystem$TextProcess" 47 "HomeSystem$TextProcess" "depth" "I" ∈ AL := AL_6 (List.mem_of_getElem? (i := 221) rfl) rfl
theorem m6_215 : Cond.fieldLink "HomeSystem$TextProcess" 18 "HomeSystem$TextProcess" "returns" "[I" ∈ AL := AL_6 (List.mem_of_getElem? (i := 215) rfl) rfl
theorem m6_217 : Cond.fieldLink "HomeSystem$TextProcess" 41 "HomeSystem$TextProcess" "pc" "I" ∈ AL := AL_6 (List.mem_of_getElem? (i := 217) rfl) rfl
theorem m6_220 : Cond.fieldLink "HomeSystem$TextProcess" 53 "HomeSystem$TextProcess" "top" "I" ∈ AL := AL_6 (List.mem_of_getElem? (i := 220) rfl) rfl
theorem m6_223 : Cond.fieldLink "HomeSystem$TextProcess" 33 "HomeSystem$TextProcess" "stack" "I" ∈ AL := AL_6 (List.mem_of_getElem? (i := 223) rfl) rfl
theorem m6_227 : Cond.fieldLink "HomeSystem$TextProcess" 88 "HomeSystem$TextProcess" "rowSize" "I" ∈ AL := AL_6 (List.mem_of_getElem? (i := 227) rfl) rfl
theorem m6_226 : Cond.fieldLink "HomeSystem$TextProcess" 91 "HomeSystem$TextProcess" "rowFrom" "I" ∈ AL := AL_6 (List.mem_of_getElem? (i := 226) rfl) rfl
theorem m6_162 : Cond.fieldLink "HomeSystem$TextProcess" 177 "HomeSystem$TextProcess" "first" "I" ∈ AL := AL_6 (List.mem_of_getElem? (i := 162) rfl) rfl
theorem m6_163 : Cond.sameField "HomeSystem$TextProcess" "HomeSystem$AnyProcess" "first" "I" ∈ AL := AL_6 (List.mem_of_getElem? (i := 163) rfl) rfl
theorem m6_159 : Cond.fieldLink "HomeSystem$TextProcess" 180 "HomeSystem$TextProcess" "which" "I" ∈ AL := AL_6 (List.mem_of_getElem? (i := 159) rfl) rfl
theorem m6_160 : Cond.sameField "HomeSystem$TextProcess" "HomeSystem$AnyProcess" "which" "I" ∈ AL := AL_6 (List.mem_of_getElem? (i := 160) rfl) rfl
theorem m6_153 : Cond.fieldLink "HomeSystem$TextProcess" 81 "HomeSystem$TextProcess" "calling" "Z" ∈ AL := AL_6 (List.mem_of_getElem? (i := 153) rfl) rfl
theorem m6_154 : Cond.sameField "HomeSystem$TextProcess" "HomeSystem$AnyProcess" "calling" "Z" ∈ AL := AL_6 (List.mem_of_getElem? (i := 154) rfl) rfl
theorem m6_167 : Cond.fieldLink "HomeSystem$TextProcess" 174 "HomeSystem$TextProcess" "second" "I" ∈ AL := AL_6 (List.mem_of_getElem? (i := 167) rfl) rfl
theorem m6_168 : Cond.sameField "HomeSystem$TextProcess" "HomeSystem$AnyProcess" "second" "I" ∈ AL := AL_6 (List.mem_of_getElem? (i := 168) rfl) rfl
theorem m7_50 : Cond.methodLink "HomeSystem$TextProcess" 59 ⟨"java/lang/Math", "min", "(II)I"⟩ ∈ AL := AL_7 (List.mem_of_getElem? (i := 50) rfl) rfl
theorem va_up_s {α : Type} {f : Nat → α} {k : Nat} {v : α} : va_up f k v k = v := by simp [va_up]
theorem va_up_n {α : Type} {f : Nat → α} {k j : Nat} {v : α} (h : j ≠ k) : va_up f k v j = f j := by simp [va_up, h]
theorem z_rng {v : Int32} (h : v = 0 ∨ v = 1) : 0 ≤ v.toInt ∧ v.toInt ≤ 1 := by
  rcases h with h | h <;> rw [h]
  · exact ⟨by decide, by decide⟩
  · exact ⟨by decide, by decide⟩
/-- where a text's process may go on -/
def Lk (x : Int32) : Prop := x.toInt < 0 ∨ (x.toInt % 4 = 0 ∧ x.toInt ≤ 100000)
theorem lk_mk {x : Int32} (h : x.toInt < 0 ∨ (x.toInt % 4 = 0 ∧ x.toInt ≤ 100000)) : Lk x := h
def RtOk (rt : Nat → Int32) : Prop := ∀ j : Nat, Lk (rt (3 * j))
def CodeOk (cd : Nat → Int32) : Prop := ∀ j : Nat, (15 ≤ (cd (4 * j) &&& 255).toInt → (cd (4 * j) &&& 255).toInt ≤ 20 → Lk (cd (4 * j + 1))) ∧ ((cd (4 * j) &&& 255).toInt = 22 → 0 ≤ (cd (4 * j + 1)).toInt ∧ (cd (4 * j + 1)).toInt ≤ 1000000)
def TxOk (x4 x5 x8 x9 x17 x21 : Int32) (rt : Nat → Int32) : Prop := Lk x4 ∧ (0 ≤ x5.toInt ∧ x5.toInt ≤ 516) ∧ (0 ≤ x8.toInt ∧ x8.toInt ≤ 101) ∧ (0 ≤ x9.toInt ∧ x9.toInt ≤ 100) ∧ 0 ≤ x17.toInt ∧ (0 ≤ x21.toInt ∧ x21.toInt ≤ 1) ∧ x17.toInt + x9.toInt + x21.toInt ≤ 100 ∧ RtOk rt
theorem cl_nat {x : Int32} (h : 0 ≤ x.toInt) : (x.toNatClampNeg : Int) = x.toInt := by
  show ((x.toInt.toNat : Nat) : Int) = x.toInt
  omega
theorem rt_at {rt : Nat → Int32} (h : RtOk rt) {x d z : Int32} (hx : x.toInt = 3 * d.toInt) (hd : 0 ≤ d.toInt) (e : z = rt x.toNatClampNeg) : Lk z := by
  first | have h1 := cl_nat (x := x) ((oz_016f458179 h1)) | have h1 := cl_nat (x := x) (by first | exact oz_016f458179 h1 | omega)
  have h2 := cl_nat hd
  first | have h3 : x.toNatClampNeg = 3 * d.toNatClampNeg := (oz_25a5477edf h1 h2 hx) | have h3 : x.toNatClampNeg = 3 * d.toNatClampNeg := by first | exact oz_25a5477edf h1 h2 hx | omega
  rw [e, h3]
  exact h _
theorem rt_up {rt : Nat → Int32} (h : RtOk rt) {x z : Int32} (hz : Lk z) : RtOk (upd rt x.toNatClampNeg z) := by
  intro j
  by_cases hj : 3 * j = x.toNatClampNeg
  · rw [hj, pk_us]; exact hz
  · rw [pk_un hj]; exact h j
theorem rt_un {rt : Nat → Int32} (h : RtOk rt) {x z : Int32} (h0 : 0 ≤ x.toInt) (h3 : x.toInt % 3 ≠ 0) : RtOk (upd rt x.toNatClampNeg z) := by
  intro j
  have h1 := cl_nat h0
  rw [pk_un (by omega)]
  exact h j
theorem code_at {cd : Nat → Int32} (h : CodeOk cd) {x y o z a : Int32} (h0 : 0 ≤ x.toInt) (h4 : x.toInt % 4 = 0) (hy : y.toInt = x.toInt + 1) (eo : o = cd x.toNatClampNeg) (ez : z = o &&& 255) (ea : a = cd y.toNatClampNeg) : (15 ≤ z.toInt → z.toInt ≤ 20 → Lk a) ∧ (z.toInt = 22 → 0 ≤ a.toInt ∧ a.toInt ≤ 1000000) := by
  have h1 := cl_nat h0
  first | have h2 := cl_nat (x := y) ((oz_ae613611c0 hy h0)) | have h2 := cl_nat (x := y) (by first | exact oz_ae613611c0 hy h0 | omega)
  have e1 : x.toNatClampNeg = 4 * (x.toNatClampNeg / 4) := by omega
  have e2 : y.toNatClampNeg = 4 * (x.toNatClampNeg / 4) + 1 := by omega
  have h3 := h (x.toNatClampNeg / 4)
  rw [← e2, ← e1, ← eo, ← ez, ← ea] at h3
  exact h3
theorem fun_at {fd : Nat → Int32} (h : RtOk fd) {x z : Int32} (hx : x.toInt % 3 = 0) (h0 : 0 ≤ x.toInt) (e : z = fd x.toNatClampNeg) : Lk z := by
  have h1 := cl_nat h0
  have h3 : x.toNatClampNeg = 3 * (x.toNatClampNeg / 3) := by omega
  rw [e, h3]
  exact h _
theorem sw_memK : ∀ (ps : List (Int × Int)) (d v : Int), Op.lookupswitch.offset ps d v = d ∨ ∃ q ∈ ps, q.1 = v ∧ Op.lookupswitch.offset ps d v = q.2
  | [], d, v => Or.inl rfl
  | (a, o) :: r, d, v => by
    rw [Op.lookupswitch.offset_cons]
    by_cases h : a = v
    · rw [if_pos h]
      exact Or.inr ⟨(a, o), List.mem_cons_self, h, rfl⟩
    · rw [if_neg h]
      rcases sw_memK r d v with h | ⟨q, h1, h2, h3⟩
      · exact Or.inl h
      · exact Or.inr ⟨q, List.mem_cons_of_mem _ h1, h2, h3⟩
section SWK
variable {p : Program} {l : Launch} {e : Env} {R : Room} {s : State} {m : MethodId} {args : Array Value} {below : List Frame} {meth : Method} {c : Code} {H : Heap} {locs : List Loc} {cells slots : Nat} {Q : State → Prop}
variable {cc : ByteArray} {pc nL : Nat} {ls : Array Slot} {rest : List Value} {own : String}
theorem px_lookupK (S : px_S p m c cc nL s args own) {dflt : Int} {ps : Array (Int × Int)} {len dt : Nat} {x : Int32} (tgts : List (Nat × List Int)) (hdg : decode cc pc = .ok (.lookupswitch dflt ps, len)) (hp : (ps.toList.zip (ps.toList.drop 1)).all (fun (a, next) => a.1 < next.1) = true) (hd : (pc : Int) + dflt = (dt : Int)) (hall : ps.toList.all (fun q => tgts.any (fun t => decide ((pc : Int) + q.2 = (t.1 : Int)) && t.2.contains q.1)) = true)
    (kd : W p l e R s m args below meth c H locs cells slots Q (F0 m dt ls rest)) (kk : ∀ t ∈ tgts, x.toInt ∈ t.2 → W p l e R s m args below meth c H locs cells slots Q (F0 m t.1 ls rest)) : W p l e R s m args below meth c H locs cells slots Q (F0 m pc ls (.int x :: rest)) := by
  rcases sw_memK ps.toList dflt x.toInt with h | ⟨q, h1, h2, h3⟩
  · exact lv_lookup S.x S.b hdg hp h hd kd
  · have h4 := List.all_eq_true.mp hall q h1
    obtain ⟨t, ht, he⟩ := List.any_eq_true.mp h4
    simp only [Bool.and_eq_true, decide_eq_true_eq] at he
    exact lv_lookup S.x S.b hdg hp h3 he.1 (kk t ht (by rw [← h2]; exact List.contains_iff_mem.mp he.2))
theorem px_tableK (S : px_S p m c cc nL s args own) {dflt lo hi : Int} {offs : Array Int} {len dt : Nat} {x : Int32} (tgts : List (Nat × List Int)) (hdg : decode cc pc = .ok (.tableswitch dflt lo hi offs, len)) (hsz : (hi - lo + 1).toNat = offs.size) (hd : (pc : Int) + dflt = (dt : Int)) (hall : (List.range offs.size).all (fun i => tgts.any (fun t => decide ((pc : Int) + offs.toList.getD i 0 = (t.1 : Int)) && t.2.contains (lo + (i : Int)))) = true)
    (kd : W p l e R s m args below meth c H locs cells slots Q (F0 m dt ls rest)) (kk : ∀ t ∈ tgts, x.toInt ∈ t.2 → W p l e R s m args below meth c H locs cells slots Q (F0 m t.1 ls rest)) : W p l e R s m args below meth c H locs cells slots Q (F0 m pc ls (.int x :: rest)) := by
  by_cases h : x.toInt < lo ∨ hi < x.toInt
  · exact lv_tableOut S.x S.b hdg h hd kd
  · have h2 : ¬ x.toInt < lo := fun q => h (Or.inl q)
    have h3 : ¬ hi < x.toInt := fun q => h (Or.inr q)
    have hlt : (x.toInt - lo).toNat < offs.size := by omega
    have h4 := List.all_eq_true.mp hall _ (List.mem_range.mpr hlt)
    obtain ⟨t, ht, he⟩ := List.any_eq_true.mp h4
    simp only [Bool.and_eq_true, decide_eq_true_eq] at he
    have e1 : offs.toList.getD (x.toInt - lo).toNat 0 = offs[(x.toInt - lo).toNat] := by
      rw [List.getD_eq_getElem?_getD, List.getElem?_eq_getElem (by simpa using hlt)]
      simp
    have e2 : lo + (((x.toInt - lo).toNat : Nat) : Int) = x.toInt := by omega
    rw [e1, e2] at he
    exact lv_tableIn S.x S.b hdg h2 h3 (Array.getElem?_eq_getElem hlt) he.1 (kk t ht (List.contains_iff_mem.mp he.2))
end SWK
def wd_Prg (cs : Nat → ClassId) (h : Nat) (r : Nat → Nat) (o : Nat → Option Nat) (f : Nat → Int32) (a : Nat → Nat → Int32) (g : Nat → Nat → Option Nat) : va_W := [(h, .inr (4, [.int (f 0), .ref (r 1), va_rf (o 2), .int (f 3), .int (f 4), .int (f 5)]))]
theorem ga_Txp_0 (cs : Nat → ClassId) (h : Nat) (r : Nat → Nat) (o : Nat → Option Nat) (f : Nat → Int32) (a : Nat → Nat → Int32) (g : Nat → Nat → Option Nat) : (wd_Txp cs h r o f a g)[1]? = some (r 0, .inl (cs 0, 8704, .inl (a 0))) := rfl
theorem sa_Txp_0 (cs : Nat → ClassId) (h : Nat) (r : Nat → Nat) (o : Nat → Option Nat) (f : Nat → Int32) (a : Nat → Nat → Int32) (g : Nat → Nat → Option Nat) (X : Nat → Int32) : (wd_Txp cs h r o f a g).set 1 (r 0, .inl (cs 0, 8704, .inl X)) = wd_Txp cs h r o f (va_up a 0 X) g := rfl
theorem ga_Txp_1 (cs : Nat → ClassId) (h : Nat) (r : Nat → Nat) (o : Nat → Option Nat) (f : Nat → Int32) (a : Nat → Nat → Int32) (g : Nat → Nat → Option Nat) : (wd_Txp cs h r o f a g)[2]? = some (r 1, .inl (cs 0, 516, .inl (a 1))) := rfl
theorem sa_Txp_1 (cs : Nat → ClassId) (h : Nat) (r : Nat → Nat) (o : Nat → Option Nat) (f : Nat → Int32) (a : Nat → Nat → Int32) (g : Nat → Nat → Option Nat) (X : Nat → Int32) : (wd_Txp cs h r o f a g).set 2 (r 1, .inl (cs 0, 516, .inl X)) = wd_Txp cs h r o f (va_up a 1 X) g := rfl
theorem ga_Txp_2 (cs : Nat → ClassId) (h : Nat) (r : Nat → Nat) (o : Nat → Option Nat) (f : Nat → Int32) (a : Nat → Nat → Int32) (g : Nat → Nat → Option Nat) : (wd_Txp cs h r o f a g)[3]? = some (r 2, .inl (cs 0, 303, .inl (a 2))) := rfl
theorem sa_Txp_2 (cs : Nat → ClassId) (h : Nat) (r : Nat → Nat) (o : Nat → Option Nat) (f : Nat → Int32) (a : Nat → Nat → Int32) (g : Nat → Nat → Option Nat) (X : Nat → Int32) : (wd_Txp cs h r o f a g).set 3 (r 2, .inl (cs 0, 303, .inl X)) = wd_Txp cs h r o f (va_up a 2 X) g := rfl
theorem ga_Txp_16 (cs : Nat → ClassId) (h : Nat) (r : Nat → Nat) (o : Nat → Option Nat) (f : Nat → Int32) (a : Nat → Nat → Int32) (g : Nat → Nat → Option Nat) : (wd_Txp cs h r o f a g)[4]? = some (r 16, .inl (cs 0, 256, .inl (a 16))) := rfl
theorem sa_Txp_16 (cs : Nat → ClassId) (h : Nat) (r : Nat → Nat) (o : Nat → Option Nat) (f : Nat → Int32) (a : Nat → Nat → Int32) (g : Nat → Nat → Option Nat) (X : Nat → Int32) : (wd_Txp cs h r o f a g).set 4 (r 16, .inl (cs 0, 256, .inl X)) = wd_Txp cs h r o f (va_up a 16 X) g := rfl
abbrev b_Hs_reckon : ByteArray := prog_1_method_20_code
def y_Hs_reckon : MethodName := ⟨"HomeSystem", "reckon", "(III)I"⟩
theorem d_Hs_reckon_0 : decode b_Hs_reckon 0 = .ok (.iload_n 0, 1) := by decide +kernel
theorem d_Hs_reckon_1 : decode b_Hs_reckon 1 = .ok (.lookupswitch 248 #[(37, 155), (38, 167), (42, 139), (43, 131), (45, 135), (47, 143), (60, 193), (62, 204), (94, 175), (124, 171), (130, 237), (132, 215), (133, 226), (134, 179), (135, 186)], 131) := by decide +kernel
theorem d_Hs_reckon_132 : decode b_Hs_reckon 132 = .ok (.iload_n 1, 1) := by decide +kernel
theorem d_Hs_reckon_133 : decode b_Hs_reckon 133 = .ok (.iload_n 2, 1) := by decide +kernel
theorem d_Hs_reckon_134 : decode b_Hs_reckon 134 = .ok (.iadd, 1) := by decide +kernel
theorem d_Hs_reckon_135 : decode b_Hs_reckon 135 = .ok (.ireturn, 1) := by decide +kernel
theorem d_Hs_reckon_136 : decode b_Hs_reckon 136 = .ok (.iload_n 1, 1) := by decide +kernel
theorem d_Hs_reckon_137 : decode b_Hs_reckon 137 = .ok (.iload_n 2, 1) := by decide +kernel
theorem d_Hs_reckon_138 : decode b_Hs_reckon 138 = .ok (.isub, 1) := by decide +kernel
theorem d_Hs_reckon_139 : decode b_Hs_reckon 139 = .ok (.ireturn, 1) := by decide +kernel
theorem d_Hs_reckon_140 : decode b_Hs_reckon 140 = .ok (.iload_n 1, 1) := by decide +kernel
theorem d_Hs_reckon_141 : decode b_Hs_reckon 141 = .ok (.iload_n 2, 1) := by decide +kernel
theorem d_Hs_reckon_142 : decode b_Hs_reckon 142 = .ok (.imul, 1) := by decide +kernel
theorem d_Hs_reckon_143 : decode b_Hs_reckon 143 = .ok (.ireturn, 1) := by decide +kernel
theorem d_Hs_reckon_144 : decode b_Hs_reckon 144 = .ok (.iload_n 2, 1) := by decide +kernel
theorem d_Hs_reckon_145 : decode b_Hs_reckon 145 = .ok (.ifCond .ne 7, 3) := by decide +kernel
theorem d_Hs_reckon_148 : decode b_Hs_reckon 148 = .ok (.iconst 0, 1) := by decide +kernel
theorem d_Hs_reckon_149 : decode b_Hs_reckon 149 = .ok (.goto 6, 3) := by decide +kernel
theorem d_Hs_reckon_152 : decode b_Hs_reckon 152 = .ok (.iload_n 1, 1) := by decide +kernel
theorem d_Hs_reckon_153 : decode b_Hs_reckon 153 = .ok (.iload_n 2, 1) := by decide +kernel
theorem d_Hs_reckon_154 : decode b_Hs_reckon 154 = .ok (.idiv, 1) := by decide +kernel
theorem d_Hs_reckon_155 : decode b_Hs_reckon 155 = .ok (.ireturn, 1) := by decide +kernel
theorem d_Hs_reckon_156 : decode b_Hs_reckon 156 = .ok (.iload_n 2, 1) := by decide +kernel
theorem d_Hs_reckon_157 : decode b_Hs_reckon 157 = .ok (.ifCond .ne 7, 3) := by decide +kernel
theorem d_Hs_reckon_160 : decode b_Hs_reckon 160 = .ok (.iconst 0, 1) := by decide +kernel
theorem d_Hs_reckon_161 : decode b_Hs_reckon 161 = .ok (.goto 6, 3) := by decide +kernel
theorem d_Hs_reckon_164 : decode b_Hs_reckon 164 = .ok (.iload_n 1, 1) := by decide +kernel
theorem d_Hs_reckon_165 : decode b_Hs_reckon 165 = .ok (.iload_n 2, 1) := by decide +kernel
theorem d_Hs_reckon_166 : decode b_Hs_reckon 166 = .ok (.irem, 1) := by decide +kernel
theorem d_Hs_reckon_167 : decode b_Hs_reckon 167 = .ok (.ireturn, 1) := by decide +kernel
theorem d_Hs_reckon_168 : decode b_Hs_reckon 168 = .ok (.iload_n 1, 1) := by decide +kernel
theorem d_Hs_reckon_169 : decode b_Hs_reckon 169 = .ok (.iload_n 2, 1) := by decide +kernel
theorem d_Hs_reckon_170 : decode b_Hs_reckon 170 = .ok (.iand, 1) := by decide +kernel
theorem d_Hs_reckon_171 : decode b_Hs_reckon 171 = .ok (.ireturn, 1) := by decide +kernel
theorem d_Hs_reckon_172 : decode b_Hs_reckon 172 = .ok (.iload_n 1, 1) := by decide +kernel
theorem d_Hs_reckon_173 : decode b_Hs_reckon 173 = .ok (.iload_n 2, 1) := by decide +kernel
theorem d_Hs_reckon_174 : decode b_Hs_reckon 174 = .ok (.ior, 1) := by decide +kernel
theorem d_Hs_reckon_175 : decode b_Hs_reckon 175 = .ok (.ireturn, 1) := by decide +kernel
theorem d_Hs_reckon_176 : decode b_Hs_reckon 176 = .ok (.iload_n 1, 1) := by decide +kernel
theorem d_Hs_reckon_177 : decode b_Hs_reckon 177 = .ok (.iload_n 2, 1) := by decide +kernel
theorem d_Hs_reckon_178 : decode b_Hs_reckon 178 = .ok (.ixor, 1) := by decide +kernel
theorem d_Hs_reckon_179 : decode b_Hs_reckon 179 = .ok (.ireturn, 1) := by decide +kernel
theorem d_Hs_reckon_180 : decode b_Hs_reckon 180 = .ok (.iload_n 1, 1) := by decide +kernel
theorem d_Hs_reckon_181 : decode b_Hs_reckon 181 = .ok (.iload_n 2, 1) := by decide +kernel
theorem d_Hs_reckon_182 : decode b_Hs_reckon 182 = .ok (.bipush 31, 2) := by decide +kernel
theorem d_Hs_reckon_184 : decode b_Hs_reckon 184 = .ok (.iand, 1) := by decide +kernel
theorem d_Hs_reckon_185 : decode b_Hs_reckon 185 = .ok (.ishl, 1) := by decide +kernel
theorem d_Hs_reckon_186 : decode b_Hs_reckon 186 = .ok (.ireturn, 1) := by decide +kernel
theorem d_Hs_reckon_187 : decode b_Hs_reckon 187 = .ok (.iload_n 1, 1) := by decide +kernel
theorem d_Hs_reckon_188 : decode b_Hs_reckon 188 = .ok (.iload_n 2, 1) := by decide +kernel
theorem d_Hs_reckon_189 : decode b_Hs_reckon 189 = .ok (.bipush 31, 2) := by decide +kernel
theorem d_Hs_reckon_191 : decode b_Hs_reckon 191 = .ok (.iand, 1) := by decide +kernel
theorem d_Hs_reckon_192 : decode b_Hs_reckon 192 = .ok (.ishr, 1) := by decide +kernel
theorem d_Hs_reckon_193 : decode b_Hs_reckon 193 = .ok (.ireturn, 1) := by decide +kernel
theorem d_Hs_reckon_194 : decode b_Hs_reckon 194 = .ok (.iload_n 1, 1) := by decide +kernel
theorem d_Hs_reckon_195 : decode b_Hs_reckon 195 = .ok (.iload_n 2, 1) := by decide +kernel
theorem d_Hs_reckon_196 : decode b_Hs_reckon 196 = .ok (.if_icmp .ge 7, 3) := by decide +kernel
theorem d_Hs_reckon_199 : decode b_Hs_reckon 199 = .ok (.iconst 1, 1) := by decide +kernel
theorem d_Hs_reckon_200 : decode b_Hs_reckon 200 = .ok (.goto 4, 3) := by decide +kernel
theorem d_Hs_reckon_203 : decode b_Hs_reckon 203 = .ok (.iconst 0, 1) := by decide +kernel
theorem d_Hs_reckon_204 : decode b_Hs_reckon 204 = .ok (.ireturn, 1) := by decide +kernel
theorem d_Hs_reckon_205 : decode b_Hs_reckon 205 = .ok (.iload_n 1, 1) := by decide +kernel
theorem d_Hs_reckon_206 : decode b_Hs_reckon 206 = .ok (.iload_n 2, 1) := by decide +kernel
theorem d_Hs_reckon_207 : decode b_Hs_reckon 207 = .ok (.if_icmp .le 7, 3) := by decide +kernel
theorem d_Hs_reckon_210 : decode b_Hs_reckon 210 = .ok (.iconst 1, 1) := by decide +kernel
theorem d_Hs_reckon_211 : decode b_Hs_reckon 211 = .ok (.goto 4, 3) := by decide +kernel
theorem d_Hs_reckon_214 : decode b_Hs_reckon 214 = .ok (.iconst 0, 1) := by decide +kernel
theorem d_Hs_reckon_215 : decode b_Hs_reckon 215 = .ok (.ireturn, 1) := by decide +kernel
theorem d_Hs_reckon_216 : decode b_Hs_reckon 216 = .ok (.iload_n 1, 1) := by decide +kernel
theorem d_Hs_reckon_217 : decode b_Hs_reckon 217 = .ok (.iload_n 2, 1) := by decide +kernel
theorem d_Hs_reckon_218 : decode b_Hs_reckon 218 = .ok (.if_icmp .gt 7, 3) := by decide +kernel
theorem d_Hs_reckon_221 : decode b_Hs_reckon 221 = .ok (.iconst 1, 1) := by decide +kernel
theorem d_Hs_reckon_222 : decode b_Hs_reckon 222 = .ok (.goto 4, 3) := by decide +kernel
theorem d_Hs_reckon_225 : decode b_Hs_reckon 225 = .ok (.iconst 0, 1) := by decide +kernel
theorem d_Hs_reckon_226 : decode b_Hs_reckon 226 = .ok (.ireturn, 1) := by decide +kernel
theorem d_Hs_reckon_227 : decode b_Hs_reckon 227 = .ok (.iload_n 1, 1) := by decide +kernel
theorem d_Hs_reckon_228 : decode b_Hs_reckon 228 = .ok (.iload_n 2, 1) := by decide +kernel
theorem d_Hs_reckon_229 : decode b_Hs_reckon 229 = .ok (.if_icmp .lt 7, 3) := by decide +kernel
theorem d_Hs_reckon_232 : decode b_Hs_reckon 232 = .ok (.iconst 1, 1) := by decide +kernel
theorem d_Hs_reckon_233 : decode b_Hs_reckon 233 = .ok (.goto 4, 3) := by decide +kernel
theorem d_Hs_reckon_236 : decode b_Hs_reckon 236 = .ok (.iconst 0, 1) := by decide +kernel
theorem d_Hs_reckon_237 : decode b_Hs_reckon 237 = .ok (.ireturn, 1) := by decide +kernel
theorem d_Hs_reckon_238 : decode b_Hs_reckon 238 = .ok (.iload_n 1, 1) := by decide +kernel
theorem d_Hs_reckon_239 : decode b_Hs_reckon 239 = .ok (.iload_n 2, 1) := by decide +kernel
theorem d_Hs_reckon_240 : decode b_Hs_reckon 240 = .ok (.if_icmp .ne 7, 3) := by decide +kernel
theorem d_Hs_reckon_243 : decode b_Hs_reckon 243 = .ok (.iconst 1, 1) := by decide +kernel
theorem d_Hs_reckon_244 : decode b_Hs_reckon 244 = .ok (.goto 4, 3) := by decide +kernel
theorem d_Hs_reckon_247 : decode b_Hs_reckon 247 = .ok (.iconst 0, 1) := by decide +kernel
theorem d_Hs_reckon_248 : decode b_Hs_reckon 248 = .ok (.ireturn, 1) := by decide +kernel
theorem d_Hs_reckon_249 : decode b_Hs_reckon 249 = .ok (.iload_n 1, 1) := by decide +kernel
theorem d_Hs_reckon_250 : decode b_Hs_reckon 250 = .ok (.iload_n 2, 1) := by decide +kernel
theorem d_Hs_reckon_251 : decode b_Hs_reckon 251 = .ok (.if_icmp .eq 7, 3) := by decide +kernel
theorem d_Hs_reckon_254 : decode b_Hs_reckon 254 = .ok (.iconst 1, 1) := by decide +kernel
theorem d_Hs_reckon_255 : decode b_Hs_reckon 255 = .ok (.goto 4, 3) := by decide +kernel
theorem d_Hs_reckon_258 : decode b_Hs_reckon 258 = .ok (.iconst 0, 1) := by decide +kernel
theorem d_Hs_reckon_259 : decode b_Hs_reckon 259 = .ok (.ireturn, 1) := by decide +kernel
theorem q_Hs_reckon : px_y y_Hs_reckon 3 := by unfold px_y; decide +kernel
set_option maxHeartbeats 4000000 in
set_option maxRecDepth 100000 in
theorem c_Hs_reckon (l : Launch) (D : va_G) (cs : Nat → ClassId)  (p0 p1 p2 : Int32)   : MetI l y_Hs_reckon b_Hs_reckon 3 (.int) D cs 0 0 (0) (0) [.int p0, .int p1, .int p2] [] (fun _ => True) (fun v ps => (ps = []) ∧ (R_Hs_reckon p0 p1 p2 v)) := by
  refine px_enter (by decide) (Nat.le_of_ble_eq_true rfl) ?_
  intro p e s m below meth c A ls hAe S hr hlk hnm hA hT hX hw hl
  have hl : lv_has ls 3 [(0, .int p0), (1, .int p1), (2, .int p2)] := hl
  have lp0 := Int32.le_toInt p0
  have up0 := Int32.toInt_lt p0
  have lp1 := Int32.le_toInt p1
  have up1 := Int32.toInt_lt p1
  have lp2 := Int32.le_toInt p2
  have up2 := Int32.toInt_lt p2
  have cst0 : (0 : Int32).toInt = 0 := rfl
  have cst1 : (1 : Int32).toInt = 1 := rfl
  have cst31 : (31 : Int32).toInt = 31 := rfl
  refine lv_iload_n S.x S.b d_Hs_reckon_0 rfl (lv_at hl 0 rfl) ?_
  refine px_lookD S (dt := 249) [37, 38, 42, 43, 45, 47, 60, 62, 94, 124, 130, 132, 133, 134, 135] [(156, [37]), (168, [38]), (140, [42]), (132, [43]), (136, [45]), (144, [47]), (194, [60]), (205, [62]), (176, [94]), (172, [124]), (238, [130]), (216, [132]), (227, [133]), (180, [134]), (187, [135])] d_Hs_reckon_1 (by decide +kernel) (by decide) (by decide +kernel) (by decide +kernel) ?_ ?_
  · intro hdf_1
    refine lv_iload_n S.x S.b d_Hs_reckon_249 rfl (lv_at hl 1 rfl) ?_
    refine lv_iload_n S.x S.b d_Hs_reckon_250 rfl (lv_at hl 2 rfl) ?_
    refine lv_icmp_eq (tgt := 258) S.x S.b d_Hs_reckon_251 (by decide) (fun c2 => ?_) (fun c2 => ?_)
    · have nc2 : p1.toInt = p2.toInt := (i_eq (x := p1) (y := p2)).mp c2
      refine lv_iconst (v := 0) S.x S.b d_Hs_reckon_258 (by decide) ?_
      exact px_iret (v := 0) S hr rfl hlk hAe hw (Nat.le_of_ble_eq_true rfl) (Nat.le_of_ble_eq_true rfl) (⟨rfl, (show R_Hs_reckon p0 p1 p2 (0 : Int32) from (Or.inl (Or.inl ⟨hdf_1, Or.inl ⟨nc2, rfl⟩⟩)))⟩) d_Hs_reckon_259
    · have nc2 : ¬ p1.toInt = p2.toInt := mt (i_eq (x := p1) (y := p2)).mpr c2
      refine lv_iconst (v := 1) S.x S.b d_Hs_reckon_254 (by decide) ?_
      refine lv_goto (tgt := 259) S.x S.b d_Hs_reckon_255 (by decide) ?_
      exact px_iret (v := 1) S hr rfl hlk hAe hw (Nat.le_of_ble_eq_true rfl) (Nat.le_of_ble_eq_true rfl) (⟨rfl, (show R_Hs_reckon p0 p1 p2 (1 : Int32) from (Or.inl (Or.inl ⟨hdf_1, Or.inr ⟨nc2, rfl⟩⟩)))⟩) d_Hs_reckon_259
  · refine List.forall_mem_cons.mpr ⟨fun c4 => ?_, List.forall_mem_cons.mpr ⟨fun c4 => ?_, List.forall_mem_cons.mpr ⟨fun c4 => ?_, List.forall_mem_cons.mpr ⟨fun c4 => ?_, List.forall_mem_cons.mpr ⟨fun c4 => ?_, List.forall_mem_cons.mpr ⟨fun c4 => ?_, List.forall_mem_cons.mpr ⟨fun c4 => ?_, List.forall_mem_cons.mpr ⟨fun c4 => ?_, List.forall_mem_cons.mpr ⟨fun c4 => ?_, List.forall_mem_cons.mpr ⟨fun c4 => ?_, List.forall_mem_cons.mpr ⟨fun c4 => ?_, List.forall_mem_cons.mpr ⟨fun c4 => ?_, List.forall_mem_cons.mpr ⟨fun c4 => ?_, List.forall_mem_cons.mpr ⟨fun c4 => ?_, List.forall_mem_cons.mpr ⟨fun c4 => ?_, fun _ h => absurd h List.not_mem_nil⟩⟩⟩⟩⟩⟩⟩⟩⟩⟩⟩⟩⟩⟩⟩
    · simp only [List.mem_cons, List.not_mem_nil, or_false] at c4
      refine lv_iload_n S.x S.b d_Hs_reckon_156 rfl (lv_at hl 2 rfl) ?_
      refine lv_if_ne (tgt := 164) S.x S.b d_Hs_reckon_157 (by decide) (fun c5 => ?_) (fun c5 => ?_)
      · have nc5 : ¬ p2.toInt = (0 : Int) := mt (i_eq (x := p2) (y := 0)).mpr c5
        refine lv_iload_n S.x S.b d_Hs_reckon_164 rfl (lv_at hl 1 rfl) ?_
        refine lv_iload_n S.x S.b d_Hs_reckon_165 rfl (lv_at hl 2 rfl) ?_
        refine lv_irem S.x S.b d_Hs_reckon_166 (fun hz0 => by have hz1 := i_eq.mp hz0; omega) ?_
        refine lv_topi (fun z7 ez7 => ?_)
        have lz7 := Int32.le_toInt z7
        have uz7 := Int32.toInt_lt z7
        exact px_iret (v := z7) S hr rfl hlk hAe hw (Nat.le_of_ble_eq_true rfl) (Nat.le_of_ble_eq_true rfl) (⟨rfl, (show R_Hs_reckon p0 p1 p2 z7 from (Or.inl (Or.inr (Or.inl ⟨c4, Or.inl ⟨nc5, z7, ez7, rfl⟩⟩))))⟩) d_Hs_reckon_167
      · have nc5 : p2.toInt = (0 : Int) := (i_eq (x := p2) (y := 0)).mp c5
        refine lv_iconst (v := 0) S.x S.b d_Hs_reckon_160 (by decide) ?_
        refine lv_goto (tgt := 167) S.x S.b d_Hs_reckon_161 (by decide) ?_
        exact px_iret (v := 0) S hr rfl hlk hAe hw (Nat.le_of_ble_eq_true rfl) (Nat.le_of_ble_eq_true rfl) (⟨rfl, (show R_Hs_reckon p0 p1 p2 (0 : Int32) from (Or.inl (Or.inr (Or.inl ⟨c4, Or.inr ⟨nc5, rfl⟩⟩))))⟩) d_Hs_reckon_167
    · simp only [List.mem_cons, List.not_mem_nil, or_false] at c4
      refine lv_iload_n S.x S.b d_Hs_reckon_168 rfl (lv_at hl 1 rfl) ?_
      refine lv_iload_n S.x S.b d_Hs_reckon_169 rfl (lv_at hl 2 rfl) ?_
      refine lv_iand S.x S.b d_Hs_reckon_170 ?_
      refine lv_topi (fun z8 ez8 => ?_)
      have lz8 := Int32.le_toInt z8
      have uz8 := Int32.toInt_lt z8
      exact px_iret (v := z8) S hr rfl hlk hAe hw (Nat.le_of_ble_eq_true rfl) (Nat.le_of_ble_eq_true rfl) (⟨rfl, (show R_Hs_reckon p0 p1 p2 z8 from (Or.inl (Or.inr (Or.inr (Or.inl ⟨c4, z8, ez8, rfl⟩)))))⟩) d_Hs_reckon_171
    · simp only [List.mem_cons, List.not_mem_nil, or_false] at c4
      refine lv_iload_n S.x S.b d_Hs_reckon_140 rfl (lv_at hl 1 rfl) ?_
      refine lv_iload_n S.x S.b d_Hs_reckon_141 rfl (lv_at hl 2 rfl) ?_
      refine lv_imul S.x S.b d_Hs_reckon_142 ?_
      refine lv_topi (fun z9 ez9 => ?_)
      have lz9 := Int32.le_toInt z9
      have uz9 := Int32.toInt_lt z9
      exact px_iret (v := z9) S hr rfl hlk hAe hw (Nat.le_of_ble_eq_true rfl) (Nat.le_of_ble_eq_true rfl) (⟨rfl, (show R_Hs_reckon p0 p1 p2 z9 from (Or.inl (Or.inr (Or.inr (Or.inr (Or.inl ⟨c4, z9, ez9, rfl⟩))))))⟩) d_Hs_reckon_143
    · simp only [List.mem_cons, List.not_mem_nil, or_false] at c4
      refine lv_iload_n S.x S.b d_Hs_reckon_132 rfl (lv_at hl 1 rfl) ?_
      refine lv_iload_n S.x S.b d_Hs_reckon_133 rfl (lv_at hl 2 rfl) ?_
      refine lv_iadd S.x S.b d_Hs_reckon_134 ?_
      refine lv_topi (fun z10 ez10 => ?_)
      have tz10 : z10.toInt = (p1.toInt + p2.toInt + 2147483648) % 4294967296 - 2147483648 := by rw [ez10]; exact i_add p1 p2
      have lz10 := Int32.le_toInt z10
      have uz10 := Int32.toInt_lt z10
      try replace tz10 : z10.toInt = p1.toInt + p2.toInt := by omega
      exact px_iret (v := z10) S hr rfl hlk hAe hw (Nat.le_of_ble_eq_true rfl) (Nat.le_of_ble_eq_true rfl) (⟨rfl, (show R_Hs_reckon p0 p1 p2 z10 from (Or.inl (Or.inr (Or.inr (Or.inr (Or.inr (Or.inl ⟨c4, z10, ez10, rfl⟩)))))))⟩) d_Hs_reckon_135
    · simp only [List.mem_cons, List.not_mem_nil, or_false] at c4
      refine lv_iload_n S.x S.b d_Hs_reckon_136 rfl (lv_at hl 1 rfl) ?_
      refine lv_iload_n S.x S.b d_Hs_reckon_137 rfl (lv_at hl 2 rfl) ?_
      refine lv_isub S.x S.b d_Hs_reckon_138 ?_
      refine lv_topi (fun z11 ez11 => ?_)
      have tz11 : z11.toInt = (p1.toInt - p2.toInt + 2147483648) % 4294967296 - 2147483648 := by rw [ez11]; exact i_sub p1 p2
      have lz11 := Int32.le_toInt z11
      have uz11 := Int32.toInt_lt z11
      try replace tz11 : z11.toInt = p1.toInt - p2.toInt := by omega
      exact px_iret (v := z11) S hr rfl hlk hAe hw (Nat.le_of_ble_eq_true rfl) (Nat.le_of_ble_eq_true rfl) (⟨rfl, (show R_Hs_reckon p0 p1 p2 z11 from (Or.inl (Or.inr (Or.inr (Or.inr (Or.inr (Or.inr (Or.inl ⟨c4, z11, ez11, rfl⟩))))))))⟩) d_Hs_reckon_139
    · simp only [List.mem_cons, List.not_mem_nil, or_false] at c4
      refine lv_iload_n S.x S.b d_Hs_reckon_144 rfl (lv_at hl 2 rfl) ?_
      refine lv_if_ne (tgt := 152) S.x S.b d_Hs_reckon_145 (by decide) (fun c12 => ?_) (fun c12 => ?_)
      · have nc12 : ¬ p2.toInt = (0 : Int) := mt (i_eq (x := p2) (y := 0)).mpr c12
        refine lv_iload_n S.x S.b d_Hs_reckon_152 rfl (lv_at hl 1 rfl) ?_
        refine lv_iload_n S.x S.b d_Hs_reckon_153 rfl (lv_at hl 2 rfl) ?_
        refine lv_idiv S.x S.b d_Hs_reckon_154 (fun hz0 => by have hz1 := i_eq.mp hz0; omega) ?_
        refine lv_topi (fun z14 ez14 => ?_)
        have lz14 := Int32.le_toInt z14
        have uz14 := Int32.toInt_lt z14
        exact px_iret (v := z14) S hr rfl hlk hAe hw (Nat.le_of_ble_eq_true rfl) (Nat.le_of_ble_eq_true rfl) (⟨rfl, (show R_Hs_reckon p0 p1 p2 z14 from (Or.inl (Or.inr (Or.inr (Or.inr (Or.inr (Or.inr (Or.inr (Or.inl ⟨c4, Or.inl ⟨nc12, z14, ez14, rfl⟩⟩)))))))))⟩) d_Hs_reckon_155
      · have nc12 : p2.toInt = (0 : Int) := (i_eq (x := p2) (y := 0)).mp c12
        refine lv_iconst (v := 0) S.x S.b d_Hs_reckon_148 (by decide) ?_
        refine lv_goto (tgt := 155) S.x S.b d_Hs_reckon_149 (by decide) ?_
        exact px_iret (v := 0) S hr rfl hlk hAe hw (Nat.le_of_ble_eq_true rfl) (Nat.le_of_ble_eq_true rfl) (⟨rfl, (show R_Hs_reckon p0 p1 p2 (0 : Int32) from (Or.inl (Or.inr (Or.inr (Or.inr (Or.inr (Or.inr (Or.inr (Or.inl ⟨c4, Or.inr ⟨nc12, rfl⟩⟩)))))))))⟩) d_Hs_reckon_155
    · simp only [List.mem_cons, List.not_mem_nil, or_false] at c4
      refine lv_iload_n S.x S.b d_Hs_reckon_194 rfl (lv_at hl 1 rfl) ?_
      refine lv_iload_n S.x S.b d_Hs_reckon_195 rfl (lv_at hl 2 rfl) ?_
      refine lv_icmp_ge (tgt := 203) S.x S.b d_Hs_reckon_196 (by decide) (fun c15 => ?_) (fun c15 => ?_)
      · have nc15 : p2.toInt ≤ p1.toInt := (i_le (x := p2) (y := p1)).mp c15
        refine lv_iconst (v := 0) S.x S.b d_Hs_reckon_203 (by decide) ?_
        exact px_iret (v := 0) S hr rfl hlk hAe hw (Nat.le_of_ble_eq_true rfl) (Nat.le_of_ble_eq_true rfl) (⟨rfl, (show R_Hs_reckon p0 p1 p2 (0 : Int32) from (Or.inl (Or.inr (Or.inr (Or.inr (Or.inr (Or.inr (Or.inr (Or.inr (Or.inl ⟨c4, Or.inl ⟨nc15, rfl⟩⟩))))))))))⟩) d_Hs_reckon_204
      · have nc15 : ¬ p2.toInt ≤ p1.toInt := mt (i_le (x := p2) (y := p1)).mpr c15
        refine lv_iconst (v := 1) S.x S.b d_Hs_reckon_199 (by decide) ?_
        refine lv_goto (tgt := 204) S.x S.b d_Hs_reckon_200 (by decide) ?_
        exact px_iret (v := 1) S hr rfl hlk hAe hw (Nat.le_of_ble_eq_true rfl) (Nat.le_of_ble_eq_true rfl) (⟨rfl, (show R_Hs_reckon p0 p1 p2 (1 : Int32) from (Or.inl (Or.inr (Or.inr (Or.inr (Or.inr (Or.inr (Or.inr (Or.inr (Or.inl ⟨c4, Or.inr ⟨nc15, rfl⟩⟩))))))))))⟩) d_Hs_reckon_204
    · simp only [List.mem_cons, List.not_mem_nil, or_false] at c4
      refine lv_iload_n S.x S.b d_Hs_reckon_205 rfl (lv_at hl 1 rfl) ?_
      refine lv_iload_n S.x S.b d_Hs_reckon_206 rfl (lv_at hl 2 rfl) ?_
      refine lv_icmp_le (tgt := 214) S.x S.b d_Hs_reckon_207 (by decide) (fun c17 => ?_) (fun c17 => ?_)
      · have nc17 : p1.toInt ≤ p2.toInt := (i_le (x := p1) (y := p2)).mp c17
        refine lv_iconst (v := 0) S.x S.b d_Hs_reckon_214 (by decide) ?_
        exact px_iret (v := 0) S hr rfl hlk hAe hw (Nat.le_of_ble_eq_true rfl) (Nat.le_of_ble_eq_true rfl) (⟨rfl, (show R_Hs_reckon p0 p1 p2 (0 : Int32) from (Or.inl (Or.inr (Or.inr (Or.inr (Or.inr (Or.inr (Or.inr (Or.inr (Or.inr (Or.inl ⟨c4, Or.inl ⟨nc17, rfl⟩⟩)))))))))))⟩) d_Hs_reckon_215
      · have nc17 : ¬ p1.toInt ≤ p2.toInt := mt (i_le (x := p1) (y := p2)).mpr c17
        refine lv_iconst (v := 1) S.x S.b d_Hs_reckon_210 (by decide) ?_
        refine lv_goto (tgt := 215) S.x S.b d_Hs_reckon_211 (by decide) ?_
        exact px_iret (v := 1) S hr rfl hlk hAe hw (Nat.le_of_ble_eq_true rfl) (Nat.le_of_ble_eq_true rfl) (⟨rfl, (show R_Hs_reckon p0 p1 p2 (1 : Int32) from (Or.inl (Or.inr (Or.inr (Or.inr (Or.inr (Or.inr (Or.inr (Or.inr (Or.inr (Or.inl ⟨c4, Or.inr ⟨nc17, rfl⟩⟩)))))))))))⟩) d_Hs_reckon_215
    · simp only [List.mem_cons, List.not_mem_nil, or_false] at c4
      refine lv_iload_n S.x S.b d_Hs_reckon_176 rfl (lv_at hl 1 rfl) ?_
      refine lv_iload_n S.x S.b d_Hs_reckon_177 rfl (lv_at hl 2 rfl) ?_
      refine lv_ixor S.x S.b d_Hs_reckon_178 ?_
      refine lv_topi (fun z19 ez19 => ?_)
      have lz19 := Int32.le_toInt z19
      have uz19 := Int32.toInt_lt z19
      exact px_iret (v := z19) S hr rfl hlk hAe hw (Nat.le_of_ble_eq_true rfl) (Nat.le_of_ble_eq_true rfl) (⟨rfl, (show R_Hs_reckon p0 p1 p2 z19 from (Or.inl (Or.inr (Or.inr (Or.inr (Or.inr (Or.inr (Or.inr (Or.inr (Or.inr (Or.inr (Or.inl ⟨c4, z19, ez19, rfl⟩))))))))))))⟩) d_Hs_reckon_179
    · simp only [List.mem_cons, List.not_mem_nil, or_false] at c4
      refine lv_iload_n S.x S.b d_Hs_reckon_172 rfl (lv_at hl 1 rfl) ?_
      refine lv_iload_n S.x S.b d_Hs_reckon_173 rfl (lv_at hl 2 rfl) ?_
      refine lv_ior S.x S.b d_Hs_reckon_174 ?_
      refine lv_topi (fun z20 ez20 => ?_)
      have lz20 := Int32.le_toInt z20
      have uz20 := Int32.toInt_lt z20
      exact px_iret (v := z20) S hr rfl hlk hAe hw (Nat.le_of_ble_eq_true rfl) (Nat.le_of_ble_eq_true rfl) (⟨rfl, (show R_Hs_reckon p0 p1 p2 z20 from (Or.inl (Or.inr (Or.inr (Or.inr (Or.inr (Or.inr (Or.inr (Or.inr (Or.inr (Or.inr (Or.inr (Or.inl ⟨c4, z20, ez20, rfl⟩)))))))))))))⟩) d_Hs_reckon_175
    · simp only [List.mem_cons, List.not_mem_nil, or_false] at c4
      refine lv_iload_n S.x S.b d_Hs_reckon_238 rfl (lv_at hl 1 rfl) ?_
      refine lv_iload_n S.x S.b d_Hs_reckon_239 rfl (lv_at hl 2 rfl) ?_
      refine lv_icmp_ne (tgt := 247) S.x S.b d_Hs_reckon_240 (by decide) (fun c21 => ?_) (fun c21 => ?_)
      · have nc21 : ¬ p1.toInt = p2.toInt := mt (i_eq (x := p1) (y := p2)).mpr c21
        refine lv_iconst (v := 0) S.x S.b d_Hs_reckon_247 (by decide) ?_
        exact px_iret (v := 0) S hr rfl hlk hAe hw (Nat.le_of_ble_eq_true rfl) (Nat.le_of_ble_eq_true rfl) (⟨rfl, (show R_Hs_reckon p0 p1 p2 (0 : Int32) from (Or.inl (Or.inr (Or.inr (Or.inr (Or.inr (Or.inr (Or.inr (Or.inr (Or.inr (Or.inr (Or.inr (Or.inr (Or.inl ⟨c4, Or.inl ⟨nc21, rfl⟩⟩))))))))))))))⟩) d_Hs_reckon_248
      · have nc21 : p1.toInt = p2.toInt := (i_eq (x := p1) (y := p2)).mp c21
        refine lv_iconst (v := 1) S.x S.b d_Hs_reckon_243 (by decide) ?_
        refine lv_goto (tgt := 248) S.x S.b d_Hs_reckon_244 (by decide) ?_
        exact px_iret (v := 1) S hr rfl hlk hAe hw (Nat.le_of_ble_eq_true rfl) (Nat.le_of_ble_eq_true rfl) (⟨rfl, (show R_Hs_reckon p0 p1 p2 (1 : Int32) from (Or.inl (Or.inr (Or.inr (Or.inr (Or.inr (Or.inr (Or.inr (Or.inr (Or.inr (Or.inr (Or.inr (Or.inr (Or.inl ⟨c4, Or.inr ⟨nc21, rfl⟩⟩))))))))))))))⟩) d_Hs_reckon_248
    · simp only [List.mem_cons, List.not_mem_nil, or_false] at c4
      refine lv_iload_n S.x S.b d_Hs_reckon_216 rfl (lv_at hl 1 rfl) ?_
      refine lv_iload_n S.x S.b d_Hs_reckon_217 rfl (lv_at hl 2 rfl) ?_
      refine lv_icmp_gt (tgt := 225) S.x S.b d_Hs_reckon_218 (by decide) (fun c23 => ?_) (fun c23 => ?_)
      · have nc23 : p2.toInt < p1.toInt := (i_lt (x := p2) (y := p1)).mp c23
        refine lv_iconst (v := 0) S.x S.b d_Hs_reckon_225 (by decide) ?_
        exact px_iret (v := 0) S hr rfl hlk hAe hw (Nat.le_of_ble_eq_true rfl) (Nat.le_of_ble_eq_true rfl) (⟨rfl, (show R_Hs_reckon p0 p1 p2 (0 : Int32) from (Or.inl (Or.inr (Or.inr (Or.inr (Or.inr (Or.inr (Or.inr (Or.inr (Or.inr (Or.inr (Or.inr (Or.inr (Or.inr (Or.inl ⟨c4, Or.inl ⟨nc23, rfl⟩⟩)))))))))))))))⟩) d_Hs_reckon_226
      · have nc23 : ¬ p2.toInt < p1.toInt := mt (i_lt (x := p2) (y := p1)).mpr c23
        refine lv_iconst (v := 1) S.x S.b d_Hs_reckon_221 (by decide) ?_
        refine lv_goto (tgt := 226) S.x S.b d_Hs_reckon_222 (by decide) ?_
        exact px_iret (v := 1) S hr rfl hlk hAe hw (Nat.le_of_ble_eq_true rfl) (Nat.le_of_ble_eq_true rfl) (⟨rfl, (show R_Hs_reckon p0 p1 p2 (1 : Int32) from (Or.inl (Or.inr (Or.inr (Or.inr (Or.inr (Or.inr (Or.inr (Or.inr (Or.inr (Or.inr (Or.inr (Or.inr (Or.inr (Or.inl ⟨c4, Or.inr ⟨nc23, rfl⟩⟩)))))))))))))))⟩) d_Hs_reckon_226
    · simp only [List.mem_cons, List.not_mem_nil, or_false] at c4
      refine lv_iload_n S.x S.b d_Hs_reckon_227 rfl (lv_at hl 1 rfl) ?_
      refine lv_iload_n S.x S.b d_Hs_reckon_228 rfl (lv_at hl 2 rfl) ?_
      refine lv_icmp_lt (tgt := 236) S.x S.b d_Hs_reckon_229 (by decide) (fun c25 => ?_) (fun c25 => ?_)
      · have nc25 : p1.toInt < p2.toInt := (i_lt (x := p1) (y := p2)).mp c25
        refine lv_iconst (v := 0) S.x S.b d_Hs_reckon_236 (by decide) ?_
        exact px_iret (v := 0) S hr rfl hlk hAe hw (Nat.le_of_ble_eq_true rfl) (Nat.le_of_ble_eq_true rfl) (⟨rfl, (show R_Hs_reckon p0 p1 p2 (0 : Int32) from (Or.inl (Or.inr (Or.inr (Or.inr (Or.inr (Or.inr (Or.inr (Or.inr (Or.inr (Or.inr (Or.inr (Or.inr (Or.inr (Or.inr (Or.inl ⟨c4, Or.inl ⟨nc25, rfl⟩⟩))))))))))))))))⟩) d_Hs_reckon_237
      · have nc25 : ¬ p1.toInt < p2.toInt := mt (i_lt (x := p1) (y := p2)).mpr c25
        refine lv_iconst (v := 1) S.x S.b d_Hs_reckon_232 (by decide) ?_
        refine lv_goto (tgt := 237) S.x S.b d_Hs_reckon_233 (by decide) ?_
        exact px_iret (v := 1) S hr rfl hlk hAe hw (Nat.le_of_ble_eq_true rfl) (Nat.le_of_ble_eq_true rfl) (⟨rfl, (show R_Hs_reckon p0 p1 p2 (1 : Int32) from (Or.inl (Or.inr (Or.inr (Or.inr (Or.inr (Or.inr (Or.inr (Or.inr (Or.inr (Or.inr (Or.inr (Or.inr (Or.inr (Or.inr (Or.inl ⟨c4, Or.inr ⟨nc25, rfl⟩⟩))))))))))))))))⟩) d_Hs_reckon_237
    · simp only [List.mem_cons, List.not_mem_nil, or_false] at c4
      refine lv_iload_n S.x S.b d_Hs_reckon_180 rfl (lv_at hl 1 rfl) ?_
      refine lv_iload_n S.x S.b d_Hs_reckon_181 rfl (lv_at hl 2 rfl) ?_
      refine lv_bipush (v := 31) S.x S.b d_Hs_reckon_182 (by decide) ?_
      refine lv_iand S.x S.b d_Hs_reckon_184 ?_
      refine lv_topi (fun z27 ez27 => ?_)
      have lz27 := Int32.le_toInt z27
      have uz27 := Int32.toInt_lt z27
      have bz27 := i_andm p2 (m := 31) 5 (by decide) (by decide)
      rw [← ez27] at bz27
      have wz27 : 0 ≤ z27.toInt ∧ z27.toInt ≤ 31 := by simp only [Nat.reducePow, Int.reducePow] at bz27; omega
      refine lv_ishl S.x S.b d_Hs_reckon_185 ?_
      refine lv_topi (fun z28 ez28 => ?_)
      have lz28 := Int32.le_toInt z28
      have uz28 := Int32.toInt_lt z28
      exact px_iret (v := z28) S hr rfl hlk hAe hw (Nat.le_of_ble_eq_true rfl) (Nat.le_of_ble_eq_true rfl) (⟨rfl, (show R_Hs_reckon p0 p1 p2 z28 from (Or.inl (Or.inr (Or.inr (Or.inr (Or.inr (Or.inr (Or.inr (Or.inr (Or.inr (Or.inr (Or.inr (Or.inr (Or.inr (Or.inr (Or.inr (Or.inl ⟨c4, z27, ez27, z28, ez28, rfl⟩)))))))))))))))))⟩) d_Hs_reckon_186
    · simp only [List.mem_cons, List.not_mem_nil, or_false] at c4
      refine lv_iload_n S.x S.b d_Hs_reckon_187 rfl (lv_at hl 1 rfl) ?_
      refine lv_iload_n S.x S.b d_Hs_reckon_188 rfl (lv_at hl 2 rfl) ?_
      refine lv_bipush (v := 31) S.x S.b d_Hs_reckon_189 (by decide) ?_
      refine lv_iand S.x S.b d_Hs_reckon_191 ?_
      refine lv_topi (fun z29 ez29 => ?_)
      have lz29 := Int32.le_toInt z29
      have uz29 := Int32.toInt_lt z29
      have bz29 := i_andm p2 (m := 31) 5 (by decide) (by decide)
      rw [← ez29] at bz29
      have wz29 : 0 ≤ z29.toInt ∧ z29.toInt ≤ 31 := by simp only [Nat.reducePow, Int.reducePow] at bz29; omega
      refine lv_ishr S.x S.b d_Hs_reckon_192 ?_
      refine lv_topi (fun z30 ez30 => ?_)
      have lz30 := Int32.le_toInt z30
      have uz30 := Int32.toInt_lt z30
      exact px_iret (v := z30) S hr rfl hlk hAe hw (Nat.le_of_ble_eq_true rfl) (Nat.le_of_ble_eq_true rfl) (⟨rfl, (show R_Hs_reckon p0 p1 p2 z30 from (Or.inl (Or.inr (Or.inr (Or.inr (Or.inr (Or.inr (Or.inr (Or.inr (Or.inr (Or.inr (Or.inr (Or.inr (Or.inr (Or.inr (Or.inr (Or.inr ⟨c4, z29, ez29, z30, ez30, rfl⟩)))))))))))))))))⟩) d_Hs_reckon_193
abbrev b_Hs_reckonUnary : ByteArray := prog_1_method_21_code
def y_Hs_reckonUnary : MethodName := ⟨"HomeSystem", "reckonUnary", "(II)I"⟩
theorem d_Hs_reckonUnary_0 : decode b_Hs_reckonUnary 0 = .ok (.iload_n 0, 1) := by decide +kernel
theorem d_Hs_reckonUnary_1 : decode b_Hs_reckonUnary 1 = .ok (.lookupswitch 40 #[(33, 30), (45, 27)], 27) := by decide +kernel
theorem d_Hs_reckonUnary_28 : decode b_Hs_reckonUnary 28 = .ok (.iload_n 1, 1) := by decide +kernel
theorem d_Hs_reckonUnary_29 : decode b_Hs_reckonUnary 29 = .ok (.ineg, 1) := by decide +kernel
theorem d_Hs_reckonUnary_30 : decode b_Hs_reckonUnary 30 = .ok (.ireturn, 1) := by decide +kernel
theorem d_Hs_reckonUnary_31 : decode b_Hs_reckonUnary 31 = .ok (.iload_n 1, 1) := by decide +kernel
theorem d_Hs_reckonUnary_32 : decode b_Hs_reckonUnary 32 = .ok (.ifCond .ne 7, 3) := by decide +kernel
theorem d_Hs_reckonUnary_35 : decode b_Hs_reckonUnary 35 = .ok (.iconst 1, 1) := by decide +kernel
theorem d_Hs_reckonUnary_36 : decode b_Hs_reckonUnary 36 = .ok (.goto 4, 3) := by decide +kernel
theorem d_Hs_reckonUnary_39 : decode b_Hs_reckonUnary 39 = .ok (.iconst 0, 1) := by decide +kernel
theorem d_Hs_reckonUnary_40 : decode b_Hs_reckonUnary 40 = .ok (.ireturn, 1) := by decide +kernel
theorem d_Hs_reckonUnary_41 : decode b_Hs_reckonUnary 41 = .ok (.iload_n 1, 1) := by decide +kernel
theorem d_Hs_reckonUnary_42 : decode b_Hs_reckonUnary 42 = .ok (.iconst (-1), 1) := by decide +kernel
theorem d_Hs_reckonUnary_43 : decode b_Hs_reckonUnary 43 = .ok (.ixor, 1) := by decide +kernel
theorem d_Hs_reckonUnary_44 : decode b_Hs_reckonUnary 44 = .ok (.ireturn, 1) := by decide +kernel
theorem q_Hs_reckonUnary : px_y y_Hs_reckonUnary 2 := by unfold px_y; decide +kernel
set_option maxHeartbeats 4000000 in
set_option maxRecDepth 100000 in
theorem c_Hs_reckonUnary (l : Launch) (D : va_G) (cs : Nat → ClassId)  (p0 p1 : Int32)   : MetI l y_Hs_reckonUnary b_Hs_reckonUnary 2 (.int) D cs 0 0 (0) (0) [.int p0, .int p1] [] (fun _ => True) (fun v ps => (ps = []) ∧ (R_Hs_reckonUnary p0 p1 v)) := by
  refine px_enter (by decide) (Nat.le_of_ble_eq_true rfl) ?_
  intro p e s m below meth c A ls hAe S hr hlk hnm hA hT hX hw hl
  have hl : lv_has ls 2 [(0, .int p0), (1, .int p1)] := hl
  have lp0 := Int32.le_toInt p0
  have up0 := Int32.toInt_lt p0
  have lp1 := Int32.le_toInt p1
  have up1 := Int32.toInt_lt p1
  have cstm1 : ((-1) : Int32).toInt = (-1) := rfl
  have cst0 : (0 : Int32).toInt = 0 := rfl
  have cst1 : (1 : Int32).toInt = 1 := rfl
  refine lv_iload_n S.x S.b d_Hs_reckonUnary_0 rfl (lv_at hl 0 rfl) ?_
  refine px_lookD S (dt := 41) [33, 45] [(31, [33]), (28, [45])] d_Hs_reckonUnary_1 (by decide +kernel) (by decide) (by decide +kernel) (by decide +kernel) ?_ ?_
  · intro hdf_1
    refine lv_iload_n S.x S.b d_Hs_reckonUnary_41 rfl (lv_at hl 1 rfl) ?_
    refine lv_iconst (v := (-1)) S.x S.b d_Hs_reckonUnary_42 (by decide) ?_
    refine lv_ixor S.x S.b d_Hs_reckonUnary_43 ?_
    refine lv_topi (fun z2 ez2 => ?_)
    have lz2 := Int32.le_toInt z2
    have uz2 := Int32.toInt_lt z2
    exact px_iret (v := z2) S hr rfl hlk hAe hw (Nat.le_of_ble_eq_true rfl) (Nat.le_of_ble_eq_true rfl) (⟨rfl, (show R_Hs_reckonUnary p0 p1 z2 from (Or.inl (Or.inl ⟨hdf_1, z2, ez2, rfl⟩)))⟩) d_Hs_reckonUnary_44
  · refine List.forall_mem_cons.mpr ⟨fun c3 => ?_, List.forall_mem_cons.mpr ⟨fun c3 => ?_, fun _ h => absurd h List.not_mem_nil⟩⟩
    · simp only [List.mem_cons, List.not_mem_nil, or_false] at c3
      refine lv_iload_n S.x S.b d_Hs_reckonUnary_31 rfl (lv_at hl 1 rfl) ?_
      refine lv_if_ne (tgt := 39) S.x S.b d_Hs_reckonUnary_32 (by decide) (fun c4 => ?_) (fun c4 => ?_)
      · have nc4 : ¬ p1.toInt = (0 : Int) := mt (i_eq (x := p1) (y := 0)).mpr c4
        refine lv_iconst (v := 0) S.x S.b d_Hs_reckonUnary_39 (by decide) ?_
        exact px_iret (v := 0) S hr rfl hlk hAe hw (Nat.le_of_ble_eq_true rfl) (Nat.le_of_ble_eq_true rfl) (⟨rfl, (show R_Hs_reckonUnary p0 p1 (0 : Int32) from (Or.inl (Or.inr (Or.inl ⟨c3, Or.inl ⟨nc4, rfl⟩⟩))))⟩) d_Hs_reckonUnary_40
      · have nc4 : p1.toInt = (0 : Int) := (i_eq (x := p1) (y := 0)).mp c4
        refine lv_iconst (v := 1) S.x S.b d_Hs_reckonUnary_35 (by decide) ?_
        refine lv_goto (tgt := 40) S.x S.b d_Hs_reckonUnary_36 (by decide) ?_
        exact px_iret (v := 1) S hr rfl hlk hAe hw (Nat.le_of_ble_eq_true rfl) (Nat.le_of_ble_eq_true rfl) (⟨rfl, (show R_Hs_reckonUnary p0 p1 (1 : Int32) from (Or.inl (Or.inr (Or.inl ⟨c3, Or.inr ⟨nc4, rfl⟩⟩))))⟩) d_Hs_reckonUnary_40
    · simp only [List.mem_cons, List.not_mem_nil, or_false] at c3
      refine lv_iload_n S.x S.b d_Hs_reckonUnary_28 rfl (lv_at hl 1 rfl) ?_
      refine lv_ineg S.x S.b d_Hs_reckonUnary_29 ?_
      refine lv_topi (fun z6 ez6 => ?_)
      have lz6 := Int32.le_toInt z6
      have uz6 := Int32.toInt_lt z6
      exact px_iret (v := z6) S hr rfl hlk hAe hw (Nat.le_of_ble_eq_true rfl) (Nat.le_of_ble_eq_true rfl) (⟨rfl, (show R_Hs_reckonUnary p0 p1 z6 from (Or.inl (Or.inr (Or.inr ⟨c3, z6, ez6, rfl⟩))))⟩) d_Hs_reckonUnary_30
abbrev b_Hs_byZero : ByteArray := prog_1_method_22_code
def y_Hs_byZero : MethodName := ⟨"HomeSystem", "byZero", "(II)Z"⟩
theorem d_Hs_byZero_0 : decode b_Hs_byZero 0 = .ok (.iload_n 0, 1) := by decide +kernel
theorem d_Hs_byZero_1 : decode b_Hs_byZero 1 = .ok (.bipush 47, 2) := by decide +kernel
theorem d_Hs_byZero_3 : decode b_Hs_byZero 3 = .ok (.if_icmp .eq 9, 3) := by decide +kernel
theorem d_Hs_byZero_6 : decode b_Hs_byZero 6 = .ok (.iload_n 0, 1) := by decide +kernel
theorem d_Hs_byZero_7 : decode b_Hs_byZero 7 = .ok (.bipush 37, 2) := by decide +kernel
theorem d_Hs_byZero_9 : decode b_Hs_byZero 9 = .ok (.if_icmp .ne 11, 3) := by decide +kernel
theorem d_Hs_byZero_12 : decode b_Hs_byZero 12 = .ok (.iload_n 1, 1) := by decide +kernel
theorem d_Hs_byZero_13 : decode b_Hs_byZero 13 = .ok (.ifCond .ne 7, 3) := by decide +kernel
theorem d_Hs_byZero_16 : decode b_Hs_byZero 16 = .ok (.iconst 1, 1) := by decide +kernel
theorem d_Hs_byZero_17 : decode b_Hs_byZero 17 = .ok (.goto 4, 3) := by decide +kernel
theorem d_Hs_byZero_20 : decode b_Hs_byZero 20 = .ok (.iconst 0, 1) := by decide +kernel
theorem d_Hs_byZero_21 : decode b_Hs_byZero 21 = .ok (.ireturn, 1) := by decide +kernel
theorem q_Hs_byZero : px_y y_Hs_byZero 2 := by unfold px_y; decide +kernel
set_option maxHeartbeats 4000000 in
set_option maxRecDepth 100000 in
theorem c_Hs_byZero (l : Launch) (D : va_G) (cs : Nat → ClassId)  (p0 p1 : Int32)   : MetI l y_Hs_byZero b_Hs_byZero 2 (.boolean) D cs 0 0 (0) (0) [.int p0, .int p1] [] (fun _ => True) (fun v ps => (ps = []) ∧ (v = 0 ∨ v = 1) ∧ (R_Hs_byZero p0 p1 v)) := by
  refine px_enter (by decide) (Nat.le_of_ble_eq_true rfl) ?_
  intro p e s m below meth c A ls hAe S hr hlk hnm hA hT hX hw hl
  have hl : lv_has ls 2 [(0, .int p0), (1, .int p1)] := hl
  have lp0 := Int32.le_toInt p0
  have up0 := Int32.toInt_lt p0
  have lp1 := Int32.le_toInt p1
  have up1 := Int32.toInt_lt p1
  have cst0 : (0 : Int32).toInt = 0 := rfl
  have cst1 : (1 : Int32).toInt = 1 := rfl
  have cst37 : (37 : Int32).toInt = 37 := rfl
  have cst47 : (47 : Int32).toInt = 47 := rfl
  refine lv_iload_n S.x S.b d_Hs_byZero_0 rfl (lv_at hl 0 rfl) ?_
  refine lv_bipush (v := 47) S.x S.b d_Hs_byZero_1 (by decide) ?_
  refine lv_icmp_eq (tgt := 12) S.x S.b d_Hs_byZero_3 (by decide) (fun c1 => ?_) (fun c1 => ?_)
  · have nc1 : p0.toInt = (47 : Int) := (i_eq (x := p0) (y := 47)).mp c1
    refine lv_iload_n S.x S.b d_Hs_byZero_12 rfl (lv_at hl 1 rfl) ?_
    refine lv_if_ne (tgt := 20) S.x S.b d_Hs_byZero_13 (by decide) (fun c3 => ?_) (fun c3 => ?_)
    · have nc3 : ¬ p1.toInt = (0 : Int) := mt (i_eq (x := p1) (y := 0)).mpr c3
      refine lv_iconst (v := 0) S.x S.b d_Hs_byZero_20 (by decide) ?_
      exact px_iret (v := 0) S hr rfl hlk hAe hw (Nat.le_of_ble_eq_true rfl) (Nat.le_of_ble_eq_true rfl) (⟨rfl, (show (0 : Int32) = 0 ∨ (0 : Int32) = 1 from by first | exact Or.inl rfl | exact Or.inr rfl | exact z_or (by omega)), (show R_Hs_byZero p0 p1 (0 : Int32) from (Or.inl (Or.inl ⟨nc1, Or.inl ⟨nc3, rfl⟩⟩)))⟩) d_Hs_byZero_21
    · have nc3 : p1.toInt = (0 : Int) := (i_eq (x := p1) (y := 0)).mp c3
      refine lv_iconst (v := 1) S.x S.b d_Hs_byZero_16 (by decide) ?_
      refine lv_goto (tgt := 21) S.x S.b d_Hs_byZero_17 (by decide) ?_
      exact px_iret (v := 1) S hr rfl hlk hAe hw (Nat.le_of_ble_eq_true rfl) (Nat.le_of_ble_eq_true rfl) (⟨rfl, (show (1 : Int32) = 0 ∨ (1 : Int32) = 1 from by first | exact Or.inl rfl | exact Or.inr rfl | exact z_or (by omega)), (show R_Hs_byZero p0 p1 (1 : Int32) from (Or.inl (Or.inl ⟨nc1, Or.inr ⟨nc3, rfl⟩⟩)))⟩) d_Hs_byZero_21
  · have nc1 : ¬ p0.toInt = (47 : Int) := mt (i_eq (x := p0) (y := 47)).mpr c1
    refine lv_iload_n S.x S.b d_Hs_byZero_6 rfl (lv_at hl 0 rfl) ?_
    refine lv_bipush (v := 37) S.x S.b d_Hs_byZero_7 (by decide) ?_
    refine lv_icmp_ne (tgt := 20) S.x S.b d_Hs_byZero_9 (by decide) (fun c5 => ?_) (fun c5 => ?_)
    · have nc5 : ¬ p0.toInt = (37 : Int) := mt (i_eq (x := p0) (y := 37)).mpr c5
      refine lv_iconst (v := 0) S.x S.b d_Hs_byZero_20 (by decide) ?_
      exact px_iret (v := 0) S hr rfl hlk hAe hw (Nat.le_of_ble_eq_true rfl) (Nat.le_of_ble_eq_true rfl) (⟨rfl, (show (0 : Int32) = 0 ∨ (0 : Int32) = 1 from by first | exact Or.inl rfl | exact Or.inr rfl | exact z_or (by omega)), (show R_Hs_byZero p0 p1 (0 : Int32) from (Or.inl (Or.inr ⟨nc1, Or.inl ⟨nc5, rfl⟩⟩)))⟩) d_Hs_byZero_21
    · have nc5 : p0.toInt = (37 : Int) := (i_eq (x := p0) (y := 37)).mp c5
      refine lv_iload_n S.x S.b d_Hs_byZero_12 rfl (lv_at hl 1 rfl) ?_
      refine lv_if_ne (tgt := 20) S.x S.b d_Hs_byZero_13 (by decide) (fun c7 => ?_) (fun c7 => ?_)
      · have nc7 : ¬ p1.toInt = (0 : Int) := mt (i_eq (x := p1) (y := 0)).mpr c7
        refine lv_iconst (v := 0) S.x S.b d_Hs_byZero_20 (by decide) ?_
        exact px_iret (v := 0) S hr rfl hlk hAe hw (Nat.le_of_ble_eq_true rfl) (Nat.le_of_ble_eq_true rfl) (⟨rfl, (show (0 : Int32) = 0 ∨ (0 : Int32) = 1 from by first | exact Or.inl rfl | exact Or.inr rfl | exact z_or (by omega)), (show R_Hs_byZero p0 p1 (0 : Int32) from (Or.inl (Or.inr ⟨nc1, Or.inr ⟨nc5, Or.inl ⟨nc7, rfl⟩⟩⟩)))⟩) d_Hs_byZero_21
      · have nc7 : p1.toInt = (0 : Int) := (i_eq (x := p1) (y := 0)).mp c7
        refine lv_iconst (v := 1) S.x S.b d_Hs_byZero_16 (by decide) ?_
        refine lv_goto (tgt := 21) S.x S.b d_Hs_byZero_17 (by decide) ?_
        exact px_iret (v := 1) S hr rfl hlk hAe hw (Nat.le_of_ble_eq_true rfl) (Nat.le_of_ble_eq_true rfl) (⟨rfl, (show (1 : Int32) = 0 ∨ (1 : Int32) = 1 from by first | exact Or.inl rfl | exact Or.inr rfl | exact z_or (by omega)), (show R_Hs_byZero p0 p1 (1 : Int32) from (Or.inl (Or.inr ⟨nc1, Or.inr ⟨nc5, Or.inr ⟨nc7, rfl⟩⟩⟩)))⟩) d_Hs_byZero_21
set_option maxHeartbeats 4000000 in
set_option maxRecDepth 100000 in
theorem c_finish_Txp (l : Launch) (D : va_G) (cs : Nat → ClassId) (h : Nat) (r : Nat → Nat) (g : Nat → Nat → Option Nat) (hp : Nat) (f : Nat → Int32) (a : Nat → Nat → Int32) (p0 p1 : Int32)  (hinv0 : TxOk (f 4) (f 5) (f 8) (f 9) (f 17) (f 21) (a 2)) : MetV l y_HomeSystem_AnyProcess_finish b_HomeSystem_AnyProcess_finish 3 D cs 0 0 (0) (0) [.ref h, .int p0, .int p1] [wd_Txp cs h r (fun k => if k = 3 then (some hp) else none) f a g] (fun _ => True) (fun ps => ∃ (f' : Nat → Int32) (a' : Nat → Nat → Int32), (ps = [wd_Txp cs h r (fun k => if k = 3 then (some hp) else none) f' a' g]) ∧ (TxOk (f' 4) (f' 5) (f' 8) (f' 9) (f' 17) (f' 21) (a' 2)) ∧ ((f' 9).toInt = (f 9).toInt) ∧ ((f' 17).toInt = (f 17).toInt) ∧ ((f' 21).toInt = 0) ∧ ((f' 15).toInt = (f 15).toInt) ∧ ((f' 20).toInt = (f 20).toInt) ∧ (R_finish_Txp p0 p1 f a f' a')) := by
  refine px_enter (by decide) (Nat.le_of_ble_eq_true rfl) ?_
  intro p e s m below meth c A ls hAe S hr hlk hnm hA hT hX hw hl
  have hl : lv_has ls 3 [(0, .ref h), (1, .int p0), (2, .int p1)] := hl
  have lp0 := Int32.le_toInt p0
  have up0 := Int32.toInt_lt p0
  have lp1 := Int32.le_toInt p1
  have up1 := Int32.toInt_lt p1
  have cst0 : (0 : Int32).toInt = 0 := rfl
  obtain ⟨lk, ⟨i2, i3⟩, ⟨i4, i5⟩, ⟨i6, i7⟩, i8, ⟨i9, i11⟩, i10, hrt⟩ := hinv0
  refine lv_aload_n S.x S.b d_HomeSystem_AnyProcess_finish_0 rfl (lv_at hl 0 rfl) ?_
  refine lv_iload_n S.x S.b d_HomeSystem_AnyProcess_finish_1 rfl (lv_at hl 1 rfl) ?_
  refine px_put S k_Txp hT hw 0 0 18 rfl rfl (by decide) m6_138 rfl rfl rfl (Nat.le_of_ble_eq_true rfl) d_HomeSystem_AnyProcess_finish_2 (w' := wd_Txp cs h r (fun k => if k = 3 then (some hp) else none) (upd f 18 p0) a g) (ps' := [wd_Txp cs h r (fun k => if k = 3 then (some hp) else none) (upd f 18 p0) a g]) rfl rfl (fun H locs hw => ?_)
  refine lv_aload_n S.x S.b d_HomeSystem_AnyProcess_finish_5 rfl (lv_at hl 0 rfl) ?_
  refine lv_iload_n S.x S.b d_HomeSystem_AnyProcess_finish_6 rfl (lv_at hl 2 rfl) ?_
  refine px_put S k_Txp hT hw 0 0 19 rfl rfl (by decide) m6_145 rfl rfl rfl (Nat.le_of_ble_eq_true rfl) d_HomeSystem_AnyProcess_finish_7 (w' := wd_Txp cs h r (fun k => if k = 3 then (some hp) else none) (upd (upd f 18 p0) 19 p1) a g) (ps' := [wd_Txp cs h r (fun k => if k = 3 then (some hp) else none) (upd (upd f 18 p0) 19 p1) a g]) rfl rfl (fun H locs hw => ?_)
  refine lv_aload_n S.x S.b d_HomeSystem_AnyProcess_finish_10 rfl (lv_at hl 0 rfl) ?_
  refine lv_iconst (v := 0) S.x S.b d_HomeSystem_AnyProcess_finish_11 (by decide) ?_
  refine px_put S k_Txp hT hw 0 0 21 rfl rfl (by decide) m6_150 rfl rfl rfl (Nat.le_of_ble_eq_true rfl) d_HomeSystem_AnyProcess_finish_12 (w' := wd_Txp cs h r (fun k => if k = 3 then (some hp) else none) (upd (upd (upd f 18 p0) 19 p1) 21 0) a g) (ps' := [wd_Txp cs h r (fun k => if k = 3 then (some hp) else none) (upd (upd (upd f 18 p0) 19 p1) 21 0) a g]) rfl rfl (fun H locs hw => ?_)
  first | exact px_vret S hr hlk hAe hw (Nat.le_of_ble_eq_true rfl) (Nat.le_of_ble_eq_true rfl) (⟨(upd (upd (upd f 18 p0) 19 p1) 21 0), a, rfl, (show TxOk (f 4) (f 5) (f 8) (f 9) (f 17) 0 (a 2) from ⟨lk, ⟨i2, i3⟩, ⟨i4, i5⟩, ⟨i6, i7⟩, i8, ⟨by omega, by omega⟩, by omega, hrt⟩), (show (f 9).toInt = (f 9).toInt from rfl), (show (f 17).toInt = (f 17).toInt from rfl), (show (0 : Int) = 0 from oz_7d1a308c7e), (show (f 15).toInt = (f 15).toInt from rfl), (show (f 20).toInt = (f 20).toInt from rfl), (show R_finish_Txp p0 p1 f a (upd (upd (upd f 18 p0) 19 p1) 21 0) a from (Or.inl ⟨rfl, rfl⟩))⟩) d_HomeSystem_AnyProcess_finish_15 | exact px_vret S hr hlk hAe hw (Nat.le_of_ble_eq_true rfl) (Nat.le_of_ble_eq_true rfl) (⟨(upd (upd (upd f 18 p0) 19 p1) 21 0), a, rfl, (show TxOk (f 4) (f 5) (f 8) (f 9) (f 17) 0 (a 2) from ⟨lk, ⟨by first | exact i2 | omega, by first | exact i3 | omega⟩, ⟨by first | exact i4 | omega, by first | exact i5 | omega⟩, ⟨by first | exact i6 | omega, by first | exact i7 | omega⟩, by first | exact i8 | omega, ⟨by omega, by omega⟩, by omega, hrt⟩), (show (f 9).toInt = (f 9).toInt from rfl), (show (f 17).toInt = (f 17).toInt from rfl), (show (0 : Int) = 0 from by first | exact oz_7d1a308c7e | omega), (show (f 15).toInt = (f 15).toInt from rfl), (show (f 20).toInt = (f 20).toInt from rfl), (show R_finish_Txp p0 p1 f a (upd (upd (upd f 18 p0) 19 p1) 21 0) a from (Or.inl ⟨rfl, rfl⟩))⟩) d_HomeSystem_AnyProcess_finish_15
set_option maxHeartbeats 4000000 in
set_option maxRecDepth 100000 in
theorem c_write_Txp (l : Launch) (D : va_G) (cs : Nat → ClassId) (h : Nat) (r : Nat → Nat) (g : Nat → Nat → Option Nat) (hp : Nat) (f : Nat → Int32) (a : Nat → Nat → Int32) (p0 : Int32)  (g0 : 0 ≤ (f 17).toInt) (g1 : (f 17).toInt ≤ 1000000) : MetV l y_HomeSystem_AnyProcess_write b_HomeSystem_AnyProcess_write 2 D cs 0 0 (0) (0) [.ref h, .int p0] [wd_Txp cs h r (fun k => if k = 3 then (some hp) else none) f a g] (fun _ => True) (fun ps => ∃ (f' : Nat → Int32) (a' : Nat → Nat → Int32), (ps = [wd_Txp cs h r (fun k => if k = 3 then (some hp) else none) f' a' g]) ∧ ((f' 17).toInt = (f 17).toInt + 1) ∧ ((f' 4).toInt = (f 4).toInt) ∧ ((f' 5).toInt = (f 5).toInt) ∧ ((f' 8).toInt = (f 8).toInt) ∧ ((f' 9).toInt = (f 9).toInt) ∧ ((f' 15).toInt = (f 15).toInt) ∧ ((f' 18).toInt = (f 18).toInt) ∧ ((f' 20).toInt = (f 20).toInt) ∧ ((f' 21).toInt = (f 21).toInt) ∧ (R_write_Txp p0 f a f' a')) := by
  refine px_enter (by decide) (Nat.le_of_ble_eq_true rfl) ?_
  intro p e s m below meth c A ls hAe S hr hlk hnm hA hT hX hw hl
  have hl : lv_has ls 2 [(0, .ref h), (1, .int p0)] := hl
  have lp0 := Int32.le_toInt p0
  have up0 := Int32.toInt_lt p0
  have cst1 : (1 : Int32).toInt = 1 := rfl
  have cst256 : (256 : Int32).toInt = 256 := rfl
  refine lv_aload_n S.x S.b d_HomeSystem_AnyProcess_write_0 rfl (lv_at hl 0 rfl) ?_
  refine px_get S k_Txp hT hw 0 0 17 (v := .int (f 17)) rfl rfl rfl (by decide) m6_136 d_HomeSystem_AnyProcess_write_1 ?_
  refine lv_sipush (v := 256) S.x S.b d_HomeSystem_AnyProcess_write_4 (by decide) ?_
  refine lv_icmp_ge (tgt := 20) S.x S.b d_HomeSystem_AnyProcess_write_7 (by decide) (fun c1 => ?_) (fun c1 => ?_)
  · have nc1 : (256 : Int) ≤ (f 17).toInt := (i_le (x := 256) (y := (f 17))).mp c1
    refine lv_aload_n S.x S.b d_HomeSystem_AnyProcess_write_20 rfl (lv_at hl 0 rfl) ?_
    refine lv_dup S.x S.b d_HomeSystem_AnyProcess_write_21 rfl ?_
    refine px_get S k_Txp hT hw 0 0 17 (v := .int (f 17)) rfl rfl rfl (by decide) m6_136 d_HomeSystem_AnyProcess_write_22 ?_
    refine lv_iconst (v := 1) S.x S.b d_HomeSystem_AnyProcess_write_25 (by decide) ?_
    refine lv_iadd S.x S.b d_HomeSystem_AnyProcess_write_26 ?_
    have lr3 := Int32.le_toInt (f 17)
    have ur3 := Int32.toInt_lt (f 17)
    refine lv_topi (fun z4 ez4 => ?_)
    have tz4 : z4.toInt = ((f 17).toInt + (1 : Int) + 2147483648) % 4294967296 - 2147483648 := by rw [ez4]; exact i_add (f 17) 1
    have lz4 := Int32.le_toInt z4
    have uz4 := Int32.toInt_lt z4
    try replace tz4 : z4.toInt = (f 17).toInt + (1 : Int) := by omega
    refine px_put S k_Txp hT hw 0 0 17 rfl rfl (by decide) m6_136 rfl rfl rfl (Nat.le_of_ble_eq_true rfl) d_HomeSystem_AnyProcess_write_27 (w' := wd_Txp cs h r (fun k => if k = 3 then (some hp) else none) (upd f 17 z4) a g) (ps' := [wd_Txp cs h r (fun k => if k = 3 then (some hp) else none) (upd f 17 z4) a g]) rfl rfl (fun H locs hw => ?_)
    first | exact px_vret S hr hlk hAe hw (Nat.le_of_ble_eq_true rfl) (Nat.le_of_ble_eq_true rfl) (⟨(upd f 17 z4), a, rfl, (show z4.toInt = (f 17).toInt + 1 from (oz_037caa6b79 tz4)), (show (f 4).toInt = (f 4).toInt from rfl), (show (f 5).toInt = (f 5).toInt from rfl), (show (f 8).toInt = (f 8).toInt from rfl), (show (f 9).toInt = (f 9).toInt from rfl), (show (f 15).toInt = (f 15).toInt from rfl), (show (f 18).toInt = (f 18).toInt from rfl), (show (f 20).toInt = (f 20).toInt from rfl), (show (f 21).toInt = (f 21).toInt from rfl), (show R_write_Txp p0 f a (upd f 17 z4) a from (Or.inl (Or.inl ⟨nc1, z4, ez4, rfl, rfl⟩)))⟩) d_HomeSystem_AnyProcess_write_30 | exact px_vret S hr hlk hAe hw (Nat.le_of_ble_eq_true rfl) (Nat.le_of_ble_eq_true rfl) (⟨(upd f 17 z4), a, rfl, (show z4.toInt = (f 17).toInt + 1 from by first | exact oz_037caa6b79 tz4 | omega), (show (f 4).toInt = (f 4).toInt from rfl), (show (f 5).toInt = (f 5).toInt from rfl), (show (f 8).toInt = (f 8).toInt from rfl), (show (f 9).toInt = (f 9).toInt from rfl), (show (f 15).toInt = (f 15).toInt from rfl), (show (f 18).toInt = (f 18).toInt from rfl), (show (f 20).toInt = (f 20).toInt from rfl), (show (f 21).toInt = (f 21).toInt from rfl), (show R_write_Txp p0 f a (upd f 17 z4) a from (Or.inl (Or.inl ⟨nc1, z4, ez4, rfl, rfl⟩)))⟩) d_HomeSystem_AnyProcess_write_30
  · have nc1 : ¬ (256 : Int) ≤ (f 17).toInt := mt (i_le (x := 256) (y := (f 17))).mpr c1
    refine lv_aload_n S.x S.b d_HomeSystem_AnyProcess_write_10 rfl (lv_at hl 0 rfl) ?_
    refine px_get S k_Txp hT hw 0 0 16 (v := .ref (r 16)) rfl rfl rfl (by decide) m6_134 d_HomeSystem_AnyProcess_write_11 ?_
    refine lv_aload_n S.x S.b d_HomeSystem_AnyProcess_write_14 rfl (lv_at hl 0 rfl) ?_
    refine px_get S k_Txp hT hw 0 0 17 (v := .int (f 17)) rfl rfl rfl (by decide) m6_136 d_HomeSystem_AnyProcess_write_15 ?_
    refine lv_iload_n S.x S.b d_HomeSystem_AnyProcess_write_18 rfl (lv_at hl 1 rfl) ?_
    refine px_iast S hT hw 0 4 (n := 256) (f := (a 16)) (x := (f 17)) (y := p0) rfl (ga_Txp_16 _ _ _ _ _ _ _) (vp_in_iff.mpr (by constructor <;> omega)) d_HomeSystem_AnyProcess_write_19 (w' := wd_Txp cs h r (fun k => if k = 3 then (some hp) else none) f (va_up a 16 (upd (a 16) (f 17).toNatClampNeg p0)) g) (ps' := [wd_Txp cs h r (fun k => if k = 3 then (some hp) else none) f (va_up a 16 (upd (a 16) (f 17).toNatClampNeg p0)) g]) (sa_Txp_16 _ _ _ _ _ _ _ _) rfl (fun H locs hw => ?_)
    refine lv_aload_n S.x S.b d_HomeSystem_AnyProcess_write_20 rfl (lv_at hl 0 rfl) ?_
    refine lv_dup S.x S.b d_HomeSystem_AnyProcess_write_21 rfl ?_
    refine px_get S k_Txp hT hw 0 0 17 (v := .int (f 17)) rfl rfl rfl (by decide) m6_136 d_HomeSystem_AnyProcess_write_22 ?_
    refine lv_iconst (v := 1) S.x S.b d_HomeSystem_AnyProcess_write_25 (by decide) ?_
    refine lv_iadd S.x S.b d_HomeSystem_AnyProcess_write_26 ?_
    have lr5 := Int32.le_toInt (f 17)
    have ur5 := Int32.toInt_lt (f 17)
    refine lv_topi (fun z6 ez6 => ?_)
    have tz6 : z6.toInt = ((f 17).toInt + (1 : Int) + 2147483648) % 4294967296 - 2147483648 := by rw [ez6]; exact i_add (f 17) 1
    have lz6 := Int32.le_toInt z6
    have uz6 := Int32.toInt_lt z6
    try replace tz6 : z6.toInt = (f 17).toInt + (1 : Int) := by omega
    refine px_put S k_Txp hT hw 0 0 17 rfl rfl (by decide) m6_136 rfl rfl rfl (Nat.le_of_ble_eq_true rfl) d_HomeSystem_AnyProcess_write_27 (w' := wd_Txp cs h r (fun k => if k = 3 then (some hp) else none) (upd f 17 z6) (va_up a 16 (upd (a 16) (f 17).toNatClampNeg p0)) g) (ps' := [wd_Txp cs h r (fun k => if k = 3 then (some hp) else none) (upd f 17 z6) (va_up a 16 (upd (a 16) (f 17).toNatClampNeg p0)) g]) rfl rfl (fun H locs hw => ?_)
    first | exact px_vret S hr hlk hAe hw (Nat.le_of_ble_eq_true rfl) (Nat.le_of_ble_eq_true rfl) (⟨(upd f 17 z6), (va_up a 16 (upd (a 16) (f 17).toNatClampNeg p0)), rfl, (show z6.toInt = (f 17).toInt + 1 from (oz_037caa6b79 tz6)), (show (f 4).toInt = (f 4).toInt from rfl), (show (f 5).toInt = (f 5).toInt from rfl), (show (f 8).toInt = (f 8).toInt from rfl), (show (f 9).toInt = (f 9).toInt from rfl), (show (f 15).toInt = (f 15).toInt from rfl), (show (f 18).toInt = (f 18).toInt from rfl), (show (f 20).toInt = (f 20).toInt from rfl), (show (f 21).toInt = (f 21).toInt from rfl), (show R_write_Txp p0 f a (upd f 17 z6) (va_up a 16 (upd (a 16) (f 17).toNatClampNeg p0)) from (Or.inl (Or.inr ⟨nc1, z6, ez6, rfl, rfl⟩)))⟩) d_HomeSystem_AnyProcess_write_30 | exact px_vret S hr hlk hAe hw (Nat.le_of_ble_eq_true rfl) (Nat.le_of_ble_eq_true rfl) (⟨(upd f 17 z6), (va_up a 16 (upd (a 16) (f 17).toNatClampNeg p0)), rfl, (show z6.toInt = (f 17).toInt + 1 from by first | exact oz_037caa6b79 tz6 | omega), (show (f 4).toInt = (f 4).toInt from rfl), (show (f 5).toInt = (f 5).toInt from rfl), (show (f 8).toInt = (f 8).toInt from rfl), (show (f 9).toInt = (f 9).toInt from rfl), (show (f 15).toInt = (f 15).toInt from rfl), (show (f 18).toInt = (f 18).toInt from rfl), (show (f 20).toInt = (f 20).toInt from rfl), (show (f 21).toInt = (f 21).toInt from rfl), (show R_write_Txp p0 f a (upd f 17 z6) (va_up a 16 (upd (a 16) (f 17).toNatClampNeg p0)) from (Or.inl (Or.inr ⟨nc1, z6, ez6, rfl, rfl⟩)))⟩) d_HomeSystem_AnyProcess_write_30
set_option maxHeartbeats 4000000 in
set_option maxRecDepth 100000 in
theorem c_reset_Txp (l : Launch) (D : va_G) (cs : Nat → ClassId) (h : Nat) (r : Nat → Nat) (g : Nat → Nat → Option Nat) (hp : Nat) (f : Nat → Int32) (a : Nat → Nat → Int32)   : MetV l y_HomeSystem_AnyProcess_reset b_HomeSystem_AnyProcess_reset 1 D cs 0 0 (0) (0) [.ref h] [wd_Txp cs h r (fun k => if k = 3 then (some hp) else none) f a g] (fun _ => True) (fun ps => ∃ (f' : Nat → Int32) (a' : Nat → Nat → Int32), (ps = [wd_Txp cs h r (fun k => if k = 3 then (some hp) else none) f' a' g]) ∧ ((f' 17).toInt = 0) ∧ ((f' 21).toInt = 0) ∧ ((f' 20).toInt = 0) ∧ ((f' 18).toInt = -2) ∧ ((f' 4).toInt = (f 4).toInt) ∧ ((f' 5).toInt = (f 5).toInt) ∧ ((f' 8).toInt = (f 8).toInt) ∧ ((f' 9).toInt = (f 9).toInt) ∧ ((f' 15).toInt = (f 15).toInt) ∧ (R_reset_Txp f a f' a')) := by
  refine px_enter (by decide) (Nat.le_of_ble_eq_true rfl) ?_
  intro p e s m below meth c A ls hAe S hr hlk hnm hA hT hX hw hl
  have hl : lv_has ls 1 [(0, .ref h)] := hl
  have cstm2 : ((-2) : Int32).toInt = (-2) := rfl
  have cst0 : (0 : Int32).toInt = 0 := rfl
  refine lv_aload_n S.x S.b d_HomeSystem_AnyProcess_reset_0 rfl (lv_at hl 0 rfl) ?_
  refine lv_iconst (v := 0) S.x S.b d_HomeSystem_AnyProcess_reset_1 (by decide) ?_
  refine px_put S k_Txp hT hw 0 0 17 rfl rfl (by decide) m6_136 rfl rfl rfl (Nat.le_of_ble_eq_true rfl) d_HomeSystem_AnyProcess_reset_2 (w' := wd_Txp cs h r (fun k => if k = 3 then (some hp) else none) (upd f 17 0) a g) (ps' := [wd_Txp cs h r (fun k => if k = 3 then (some hp) else none) (upd f 17 0) a g]) rfl rfl (fun H locs hw => ?_)
  refine lv_aload_n S.x S.b d_HomeSystem_AnyProcess_reset_5 rfl (lv_at hl 0 rfl) ?_
  refine lv_bipush (v := (-2)) S.x S.b d_HomeSystem_AnyProcess_reset_6 (by decide) ?_
  refine px_put S k_Txp hT hw 0 0 18 rfl rfl (by decide) m6_138 rfl rfl rfl (Nat.le_of_ble_eq_true rfl) d_HomeSystem_AnyProcess_reset_8 (w' := wd_Txp cs h r (fun k => if k = 3 then (some hp) else none) (upd (upd f 17 0) 18 (-2)) a g) (ps' := [wd_Txp cs h r (fun k => if k = 3 then (some hp) else none) (upd (upd f 17 0) 18 (-2)) a g]) rfl rfl (fun H locs hw => ?_)
  refine lv_aload_n S.x S.b d_HomeSystem_AnyProcess_reset_11 rfl (lv_at hl 0 rfl) ?_
  refine lv_iconst (v := 0) S.x S.b d_HomeSystem_AnyProcess_reset_12 (by decide) ?_
  refine px_put S k_Txp hT hw 0 0 19 rfl rfl (by decide) m6_145 rfl rfl rfl (Nat.le_of_ble_eq_true rfl) d_HomeSystem_AnyProcess_reset_13 (w' := wd_Txp cs h r (fun k => if k = 3 then (some hp) else none) (upd (upd (upd f 17 0) 18 (-2)) 19 0) a g) (ps' := [wd_Txp cs h r (fun k => if k = 3 then (some hp) else none) (upd (upd (upd f 17 0) 18 (-2)) 19 0) a g]) rfl rfl (fun H locs hw => ?_)
  refine lv_aload_n S.x S.b d_HomeSystem_AnyProcess_reset_16 rfl (lv_at hl 0 rfl) ?_
  refine lv_iconst (v := 0) S.x S.b d_HomeSystem_AnyProcess_reset_17 (by decide) ?_
  refine px_put S k_Txp hT hw 0 0 20 rfl rfl (by decide) m6_148 rfl rfl rfl (Nat.le_of_ble_eq_true rfl) d_HomeSystem_AnyProcess_reset_18 (w' := wd_Txp cs h r (fun k => if k = 3 then (some hp) else none) (upd (upd (upd (upd f 17 0) 18 (-2)) 19 0) 20 0) a g) (ps' := [wd_Txp cs h r (fun k => if k = 3 then (some hp) else none) (upd (upd (upd (upd f 17 0) 18 (-2)) 19 0) 20 0) a g]) rfl rfl (fun H locs hw => ?_)
  refine lv_aload_n S.x S.b d_HomeSystem_AnyProcess_reset_21 rfl (lv_at hl 0 rfl) ?_
  refine lv_iconst (v := 0) S.x S.b d_HomeSystem_AnyProcess_reset_22 (by decide) ?_
  refine px_put S k_Txp hT hw 0 0 21 rfl rfl (by decide) m6_150 rfl rfl rfl (Nat.le_of_ble_eq_true rfl) d_HomeSystem_AnyProcess_reset_23 (w' := wd_Txp cs h r (fun k => if k = 3 then (some hp) else none) (upd (upd (upd (upd (upd f 17 0) 18 (-2)) 19 0) 20 0) 21 0) a g) (ps' := [wd_Txp cs h r (fun k => if k = 3 then (some hp) else none) (upd (upd (upd (upd (upd f 17 0) 18 (-2)) 19 0) 20 0) 21 0) a g]) rfl rfl (fun H locs hw => ?_)
  first | exact px_vret S hr hlk hAe hw (Nat.le_of_ble_eq_true rfl) (Nat.le_of_ble_eq_true rfl) (⟨(upd (upd (upd (upd (upd f 17 0) 18 (-2)) 19 0) 20 0) 21 0), a, rfl, (show (0 : Int) = 0 from oz_7d1a308c7e), (show (0 : Int) = 0 from oz_7d1a308c7e), (show (0 : Int) = 0 from oz_7d1a308c7e), (show (-2 : Int) = -2 from oz_453f5876af), (show (f 4).toInt = (f 4).toInt from rfl), (show (f 5).toInt = (f 5).toInt from rfl), (show (f 8).toInt = (f 8).toInt from rfl), (show (f 9).toInt = (f 9).toInt from rfl), (show (f 15).toInt = (f 15).toInt from rfl), (show R_reset_Txp f a (upd (upd (upd (upd (upd f 17 0) 18 (-2)) 19 0) 20 0) 21 0) a from (Or.inl ⟨rfl, rfl⟩))⟩) d_HomeSystem_AnyProcess_reset_26 | exact px_vret S hr hlk hAe hw (Nat.le_of_ble_eq_true rfl) (Nat.le_of_ble_eq_true rfl) (⟨(upd (upd (upd (upd (upd f 17 0) 18 (-2)) 19 0) 20 0) 21 0), a, rfl, (show (0 : Int) = 0 from by first | exact oz_7d1a308c7e | omega), (show (0 : Int) = 0 from by first | exact oz_7d1a308c7e | omega), (show (0 : Int) = 0 from by first | exact oz_7d1a308c7e | omega), (show (-2 : Int) = -2 from by first | exact oz_453f5876af | omega), (show (f 4).toInt = (f 4).toInt from rfl), (show (f 5).toInt = (f 5).toInt from rfl), (show (f 8).toInt = (f 8).toInt from rfl), (show (f 9).toInt = (f 9).toInt from rfl), (show (f 15).toInt = (f 15).toInt from rfl), (show R_reset_Txp f a (upd (upd (upd (upd (upd f 17 0) 18 (-2)) 19 0) 20 0) 21 0) a from (Or.inl ⟨rfl, rfl⟩))⟩) d_HomeSystem_AnyProcess_reset_26
abbrev b_Prg_aboutFunction : ByteArray := prog_7_method_5_code
def y_Prg_aboutFunction : MethodName := ⟨"HomeSystem$Program", "aboutFunction", "(II)I"⟩
theorem d_Prg_aboutFunction_0 : decode b_Prg_aboutFunction 0 = .ok (.iconst 3, 1) := by decide +kernel
theorem d_Prg_aboutFunction_1 : decode b_Prg_aboutFunction 1 = .ok (.iload_n 1, 1) := by decide +kernel
theorem d_Prg_aboutFunction_2 : decode b_Prg_aboutFunction 2 = .ok (.imul, 1) := by decide +kernel
theorem d_Prg_aboutFunction_3 : decode b_Prg_aboutFunction 3 = .ok (.iload_n 2, 1) := by decide +kernel
theorem d_Prg_aboutFunction_4 : decode b_Prg_aboutFunction 4 = .ok (.iadd, 1) := by decide +kernel
theorem d_Prg_aboutFunction_5 : decode b_Prg_aboutFunction 5 = .ok (.istore_n 3, 1) := by decide +kernel
theorem d_Prg_aboutFunction_6 : decode b_Prg_aboutFunction 6 = .ok (.aload_n 0, 1) := by decide +kernel
theorem d_Prg_aboutFunction_7 : decode b_Prg_aboutFunction 7 = .ok (.getfield 15, 3) := by decide +kernel
theorem d_Prg_aboutFunction_10 : decode b_Prg_aboutFunction 10 = .ok (.ifnull 25, 3) := by decide +kernel
theorem d_Prg_aboutFunction_13 : decode b_Prg_aboutFunction 13 = .ok (.iload_n 3, 1) := by decide +kernel
theorem d_Prg_aboutFunction_14 : decode b_Prg_aboutFunction 14 = .ok (.ifCond .lt 21, 3) := by decide +kernel
theorem d_Prg_aboutFunction_17 : decode b_Prg_aboutFunction 17 = .ok (.iload_n 3, 1) := by decide +kernel
theorem d_Prg_aboutFunction_18 : decode b_Prg_aboutFunction 18 = .ok (.aload_n 0, 1) := by decide +kernel
theorem d_Prg_aboutFunction_19 : decode b_Prg_aboutFunction 19 = .ok (.getfield 15, 3) := by decide +kernel
theorem d_Prg_aboutFunction_22 : decode b_Prg_aboutFunction 22 = .ok (.arraylength, 1) := by decide +kernel
theorem d_Prg_aboutFunction_23 : decode b_Prg_aboutFunction 23 = .ok (.if_icmp .ge 12, 3) := by decide +kernel
theorem d_Prg_aboutFunction_26 : decode b_Prg_aboutFunction 26 = .ok (.aload_n 0, 1) := by decide +kernel
theorem d_Prg_aboutFunction_27 : decode b_Prg_aboutFunction 27 = .ok (.getfield 15, 3) := by decide +kernel
theorem d_Prg_aboutFunction_30 : decode b_Prg_aboutFunction 30 = .ok (.iload_n 3, 1) := by decide +kernel
theorem d_Prg_aboutFunction_31 : decode b_Prg_aboutFunction 31 = .ok (.iaload, 1) := by decide +kernel
theorem d_Prg_aboutFunction_32 : decode b_Prg_aboutFunction 32 = .ok (.goto 4, 3) := by decide +kernel
theorem d_Prg_aboutFunction_35 : decode b_Prg_aboutFunction 35 = .ok (.iconst 0, 1) := by decide +kernel
theorem d_Prg_aboutFunction_36 : decode b_Prg_aboutFunction 36 = .ok (.ireturn, 1) := by decide +kernel
theorem q_Prg_aboutFunction : px_y y_Prg_aboutFunction 2 := by unfold px_y; decide +kernel
set_option maxHeartbeats 4000000 in
set_option maxRecDepth 100000 in
theorem c_Prg_aboutFunction (l : Launch) (D : va_G) (cs : Nat → ClassId) (hp : Nat) (rp : Nat → Nat) (of : Option Nat) (fp : Nat → Int32) (fn : Nat) (fd : Nat → Int32) (p0 p1 : Int32)  (g0 : fn ≤ 1000000) (g1 : 0 ≤ p0.toInt) (g2 : p0.toInt ≤ 1000000) (g3 : 0 ≤ p1.toInt) (g4 : p1.toInt ≤ 2) (hfd : RtOk fd) : MetI l y_Prg_aboutFunction b_Prg_aboutFunction 4 (.int) D cs 0 0 (0) (0) [.ref hp, .int p0, .int p1] [wd_Prg cs hp rp (fun k => if k = 2 then of else none) fp (fun _ _ => 0) (fun _ _ => none), nA cs of fn fd] (fun _ => True) (fun v ps => (ps = [wd_Prg cs hp rp (fun k => if k = 2 then of else none) fp (fun _ _ => 0) (fun _ _ => none), nA cs of fn fd]) ∧ (p1.toInt = 0 → Lk v) ∧ (R_Prg_aboutFunction of fn fd p0 p1 v)) := by
  refine px_enter (by decide) (Nat.le_of_ble_eq_true rfl) ?_
  intro p e s m below meth c A ls hAe S hr hlk hnm hA hT hX hw hl
  have hl : lv_has ls 4 [(0, .ref hp), (1, .int p0), (2, .int p1)] := hl
  have lp0 := Int32.le_toInt p0
  have up0 := Int32.toInt_lt p0
  have lp1 := Int32.le_toInt p1
  have up1 := Int32.toInt_lt p1
  have cst0 : (0 : Int32).toInt = 0 := rfl
  have cst3 : (3 : Int32).toInt = 3 := rfl
  have hfn : (nI fn).toInt = (fn : Int) := nI_toInt (by omega)
  refine lv_iconst (v := 3) S.x S.b d_Prg_aboutFunction_0 (by decide) ?_
  refine lv_iload_n S.x S.b d_Prg_aboutFunction_1 rfl (lv_at hl 1 rfl) ?_
  refine lv_imul S.x S.b d_Prg_aboutFunction_2 ?_
  refine lv_topi (fun z1 ez1 => ?_)
  have lz1 := Int32.le_toInt z1
  have uz1 := Int32.toInt_lt z1
  have tz1 : -2147483648 ≤ 3 * p0.toInt → 3 * p0.toInt < 2147483648 → z1.toInt = 3 * p0.toInt := by rw [ez1]; exact i_mulc 3 p0 (by decide)
  try replace tz1 : z1.toInt = 3 * p0.toInt := by omega
  refine lv_iload_n S.x S.b d_Prg_aboutFunction_3 rfl (lv_at hl 2 rfl) ?_
  refine lv_iadd S.x S.b d_Prg_aboutFunction_4 ?_
  refine lv_topi (fun z2 ez2 => ?_)
  have tz2 : z2.toInt = (z1.toInt + p1.toInt + 2147483648) % 4294967296 - 2147483648 := by rw [ez2]; exact i_add z1 p1
  have lz2 := Int32.le_toInt z2
  have uz2 := Int32.toInt_lt z2
  try replace tz2 : z2.toInt = z1.toInt + p1.toInt := by omega
  refine lv_istore_n (lv' := [(3, .int z2), (0, .ref hp), (1, .int p0), (2, .int p1)]) S.x S.b d_Prg_aboutFunction_5 rfl hl (by decide) rfl (fun ls hl => ?_)
  refine lv_aload_n S.x S.b d_Prg_aboutFunction_6 rfl (lv_at hl 1 rfl) ?_
  refine px_get S k_Prg hT hw 0 0 2 (v := va_rf of) rfl rfl rfl (by decide) m2_103 d_Prg_aboutFunction_7 ?_
  refine lq_ifnull (x := of) (tgt := 35) S.x S.b d_Prg_aboutFunction_10 (by decide) (fun c3 => ?_) (fun q4 c3 => ?_)
  ·
    subst c3
    refine lv_iconst (v := 0) S.x S.b d_Prg_aboutFunction_35 (by decide) ?_
    exact px_iret (v := 0) S hr rfl hlk hAe hw (Nat.le_of_ble_eq_true rfl) (Nat.le_of_ble_eq_true rfl) (⟨rfl, (show p1.toInt = 0 → Lk (0 : Int32) from by first | assumption | exact fun _ => lk_mk (by omega)), (show R_Prg_aboutFunction none fn fd p0 p1 (0 : Int32) from (Or.inl ⟨z1, ez1, z2, ez2, Or.inl ⟨rfl, rfl⟩⟩))⟩) d_Prg_aboutFunction_36
  ·
    subst c3
    refine lv_iload_n S.x S.b d_Prg_aboutFunction_13 rfl (lv_at hl 0 rfl) ?_
    refine lv_if_lt (tgt := 35) S.x S.b d_Prg_aboutFunction_14 (by decide) (fun c6 => ?_) (fun c6 => ?_)
    · have nc6 : z2.toInt < (0 : Int) := (i_lt (x := z2) (y := 0)).mp c6
      refine lv_iconst (v := 0) S.x S.b d_Prg_aboutFunction_35 (by decide) ?_
      exact px_iret (v := 0) S hr rfl hlk hAe hw (Nat.le_of_ble_eq_true rfl) (Nat.le_of_ble_eq_true rfl) (⟨rfl, (show p1.toInt = 0 → Lk (0 : Int32) from by first | assumption | exact fun _ => lk_mk (by omega)), (show R_Prg_aboutFunction (some q4) fn fd p0 p1 (0 : Int32) from (Or.inl ⟨z1, ez1, z2, ez2, Or.inr ⟨q4, rfl, Or.inl ⟨nc6, rfl⟩⟩⟩))⟩) d_Prg_aboutFunction_36
    · have nc6 : ¬ z2.toInt < (0 : Int) := mt (i_lt (x := z2) (y := 0)).mpr c6
      refine lv_iload_n S.x S.b d_Prg_aboutFunction_17 rfl (lv_at hl 0 rfl) ?_
      refine lv_aload_n S.x S.b d_Prg_aboutFunction_18 rfl (lv_at hl 1 rfl) ?_
      refine px_get S k_Prg hT hw 0 0 2 (v := .ref q4) rfl rfl rfl (by decide) m2_103 d_Prg_aboutFunction_19 ?_
      refine px_len S hT hw 1 0 0 rfl rfl rfl (v := (nI fn)) rfl d_Prg_aboutFunction_22 ?_
      refine lv_icmp_ge (tgt := 35) S.x S.b d_Prg_aboutFunction_23 (by decide) (fun c8 => ?_) (fun c8 => ?_)
      · have nc8 : (nI fn).toInt ≤ z2.toInt := (i_le (x := (nI fn)) (y := z2)).mp c8
        refine lv_iconst (v := 0) S.x S.b d_Prg_aboutFunction_35 (by decide) ?_
        exact px_iret (v := 0) S hr rfl hlk hAe hw (Nat.le_of_ble_eq_true rfl) (Nat.le_of_ble_eq_true rfl) (⟨rfl, (show p1.toInt = 0 → Lk (0 : Int32) from by first | assumption | exact fun _ => lk_mk (by omega)), (show R_Prg_aboutFunction (some q4) fn fd p0 p1 (0 : Int32) from (Or.inl ⟨z1, ez1, z2, ez2, Or.inr ⟨q4, rfl, Or.inr ⟨nc6, Or.inl ⟨nc8, rfl⟩⟩⟩⟩))⟩) d_Prg_aboutFunction_36
      · have nc8 : ¬ (nI fn).toInt ≤ z2.toInt := mt (i_le (x := (nI fn)) (y := z2)).mpr c8
        refine lv_aload_n S.x S.b d_Prg_aboutFunction_26 rfl (lv_at hl 1 rfl) ?_
        refine px_get S k_Prg hT hw 0 0 2 (v := .ref q4) rfl rfl rfl (by decide) m2_103 d_Prg_aboutFunction_27 ?_
        refine lv_iload_n S.x S.b d_Prg_aboutFunction_30 rfl (lv_at hl 0 rfl) ?_
        refine px_iald S hT hw 1 0 (n := fn) (f := fd) rfl rfl (x := z2) (vp_in_iff.mpr (by constructor <;> omega)) d_Prg_aboutFunction_31 ?_
        refine lv_topi (fun z10 ez10 => ?_)
        have lz10 := Int32.le_toInt z10
        have uz10 := Int32.toInt_lt z10
        have hfe : p1.toInt = 0 → Lk z10 := fun h0 => fun_at hfd (x := z2) (by omega) (by omega) ez10
        refine lv_goto (tgt := 36) S.x S.b d_Prg_aboutFunction_32 (by decide) ?_
        exact px_iret (v := z10) S hr rfl hlk hAe hw (Nat.le_of_ble_eq_true rfl) (Nat.le_of_ble_eq_true rfl) (⟨rfl, (show p1.toInt = 0 → Lk z10 from by first | assumption | exact fun _ => lk_mk (by omega)), (show R_Prg_aboutFunction (some q4) fn fd p0 p1 z10 from (Or.inl ⟨z1, ez1, z2, ez2, Or.inr ⟨q4, rfl, Or.inr ⟨nc6, Or.inr ⟨nc8, z10, ez10, rfl⟩⟩⟩⟩))⟩) d_Prg_aboutFunction_36
abbrev b_Txp_peek : ByteArray := prog_11_method_8_code
def y_Txp_peek : MethodName := ⟨"HomeSystem$TextProcess", "peek", "(I)I"⟩
theorem d_Txp_peek_0 : decode b_Txp_peek 0 = .ok (.iload_n 1, 1) := by decide +kernel
theorem d_Txp_peek_1 : decode b_Txp_peek 1 = .ok (.ifCond .lt 21, 3) := by decide +kernel
theorem d_Txp_peek_4 : decode b_Txp_peek 4 = .ok (.iload_n 1, 1) := by decide +kernel
theorem d_Txp_peek_5 : decode b_Txp_peek 5 = .ok (.aload_n 0, 1) := by decide +kernel
theorem d_Txp_peek_6 : decode b_Txp_peek 6 = .ok (.getfield 9, 3) := by decide +kernel
theorem d_Txp_peek_9 : decode b_Txp_peek 9 = .ok (.arraylength, 1) := by decide +kernel
theorem d_Txp_peek_10 : decode b_Txp_peek 10 = .ok (.if_icmp .ge 12, 3) := by decide +kernel
theorem d_Txp_peek_13 : decode b_Txp_peek 13 = .ok (.aload_n 0, 1) := by decide +kernel
theorem d_Txp_peek_14 : decode b_Txp_peek 14 = .ok (.getfield 9, 3) := by decide +kernel
theorem d_Txp_peek_17 : decode b_Txp_peek 17 = .ok (.iload_n 1, 1) := by decide +kernel
theorem d_Txp_peek_18 : decode b_Txp_peek 18 = .ok (.iaload, 1) := by decide +kernel
theorem d_Txp_peek_19 : decode b_Txp_peek 19 = .ok (.goto 4, 3) := by decide +kernel
theorem d_Txp_peek_22 : decode b_Txp_peek 22 = .ok (.iconst 0, 1) := by decide +kernel
theorem d_Txp_peek_23 : decode b_Txp_peek 23 = .ok (.ireturn, 1) := by decide +kernel
theorem q_Txp_peek : px_y y_Txp_peek 1 := by unfold px_y; decide +kernel
set_option maxHeartbeats 4000000 in
set_option maxRecDepth 100000 in
theorem c_Txp_peek (l : Launch) (D : va_G) (cs : Nat → ClassId) (h : Nat) (r : Nat → Nat) (g : Nat → Nat → Option Nat) (hp : Nat) (f : Nat → Int32) (a : Nat → Nat → Int32) (p0 : Int32)  (hinv0 : TxOk (f 4) (f 5) (f 8) (f 9) (f 17) (f 21) (a 2)) : MetI l y_Txp_peek b_Txp_peek 2 (.int) D cs 0 0 (0) (0) [.ref h, .int p0] [wd_Txp cs h r (fun k => if k = 3 then (some hp) else none) f a g] (fun _ => True) (fun v ps => (ps = [wd_Txp cs h r (fun k => if k = 3 then (some hp) else none) f a g]) ∧ (R_Txp_peek a p0 v)) := by
  refine px_enter (by decide) (Nat.le_of_ble_eq_true rfl) ?_
  intro p e s m below meth c A ls hAe S hr hlk hnm hA hT hX hw hl
  have hl : lv_has ls 2 [(0, .ref h), (1, .int p0)] := hl
  have lp0 := Int32.le_toInt p0
  have up0 := Int32.toInt_lt p0
  have cst0 : (0 : Int32).toInt = 0 := rfl
  obtain ⟨lk, ⟨i2, i3⟩, ⟨i4, i5⟩, ⟨i6, i7⟩, i8, ⟨i9, i11⟩, i10, hrt⟩ := hinv0
  refine lv_iload_n S.x S.b d_Txp_peek_0 rfl (lv_at hl 1 rfl) ?_
  refine lv_if_lt (tgt := 22) S.x S.b d_Txp_peek_1 (by decide) (fun c1 => ?_) (fun c1 => ?_)
  · have nc1 : p0.toInt < (0 : Int) := (i_lt (x := p0) (y := 0)).mp c1
    refine lv_iconst (v := 0) S.x S.b d_Txp_peek_22 (by decide) ?_
    exact px_iret (v := 0) S hr rfl hlk hAe hw (Nat.le_of_ble_eq_true rfl) (Nat.le_of_ble_eq_true rfl) (⟨rfl, (show R_Txp_peek a p0 (0 : Int32) from (Or.inl (Or.inl ⟨nc1, rfl⟩)))⟩) d_Txp_peek_23
  · have nc1 : ¬ p0.toInt < (0 : Int) := mt (i_lt (x := p0) (y := 0)).mpr c1
    refine lv_iload_n S.x S.b d_Txp_peek_4 rfl (lv_at hl 1 rfl) ?_
    refine lv_aload_n S.x S.b d_Txp_peek_5 rfl (lv_at hl 0 rfl) ?_
    refine px_get S k_Txp hT hw 0 0 0 (v := .ref (r 0)) rfl rfl rfl (by decide) m6_213 d_Txp_peek_6 ?_
    refine px_len S hT hw 0 1 0 rfl rfl rfl (v := 8704) rfl d_Txp_peek_9 ?_
    refine lv_icmp_ge (tgt := 22) S.x S.b d_Txp_peek_10 (by decide) (fun c3 => ?_) (fun c3 => ?_)
    · have nc3 : (8704 : Int) ≤ p0.toInt := (i_le (x := 8704) (y := p0)).mp c3
      refine lv_iconst (v := 0) S.x S.b d_Txp_peek_22 (by decide) ?_
      exact px_iret (v := 0) S hr rfl hlk hAe hw (Nat.le_of_ble_eq_true rfl) (Nat.le_of_ble_eq_true rfl) (⟨rfl, (show R_Txp_peek a p0 (0 : Int32) from (Or.inl (Or.inr ⟨nc1, Or.inl ⟨nc3, rfl⟩⟩)))⟩) d_Txp_peek_23
    · have nc3 : ¬ (8704 : Int) ≤ p0.toInt := mt (i_le (x := 8704) (y := p0)).mpr c3
      refine lv_aload_n S.x S.b d_Txp_peek_13 rfl (lv_at hl 0 rfl) ?_
      refine px_get S k_Txp hT hw 0 0 0 (v := .ref (r 0)) rfl rfl rfl (by decide) m6_213 d_Txp_peek_14 ?_
      refine lv_iload_n S.x S.b d_Txp_peek_17 rfl (lv_at hl 1 rfl) ?_
      refine px_iald S hT hw 0 1 (n := 8704) (f := (a 0)) rfl (ga_Txp_0 _ _ _ _ _ _ _) (x := p0) (vp_in_iff.mpr (by first | exact oz_48695ba6d4 nc1 nc3 | (constructor <;> omega))) d_Txp_peek_18 ?_
      refine lv_topi (fun z5 ez5 => ?_)
      have lz5 := Int32.le_toInt z5
      have uz5 := Int32.toInt_lt z5
      refine lv_goto (tgt := 23) S.x S.b d_Txp_peek_19 (by decide) ?_
      exact px_iret (v := z5) S hr rfl hlk hAe hw (Nat.le_of_ble_eq_true rfl) (Nat.le_of_ble_eq_true rfl) (⟨rfl, (show R_Txp_peek a p0 z5 from (Or.inl (Or.inr ⟨nc1, Or.inr ⟨nc3, z5, ez5, rfl⟩⟩)))⟩) d_Txp_peek_23
abbrev b_Txp_poke : ByteArray := prog_11_method_9_code
def y_Txp_poke : MethodName := ⟨"HomeSystem$TextProcess", "poke", "(II)V"⟩
theorem d_Txp_poke_0 : decode b_Txp_poke 0 = .ok (.iload_n 1, 1) := by decide +kernel
theorem d_Txp_poke_1 : decode b_Txp_poke 1 = .ok (.ifCond .lt 19, 3) := by decide +kernel
theorem d_Txp_poke_4 : decode b_Txp_poke 4 = .ok (.iload_n 1, 1) := by decide +kernel
theorem d_Txp_poke_5 : decode b_Txp_poke 5 = .ok (.aload_n 0, 1) := by decide +kernel
theorem d_Txp_poke_6 : decode b_Txp_poke 6 = .ok (.getfield 9, 3) := by decide +kernel
theorem d_Txp_poke_9 : decode b_Txp_poke 9 = .ok (.arraylength, 1) := by decide +kernel
theorem d_Txp_poke_10 : decode b_Txp_poke 10 = .ok (.if_icmp .ge 10, 3) := by decide +kernel
theorem d_Txp_poke_13 : decode b_Txp_poke 13 = .ok (.aload_n 0, 1) := by decide +kernel
theorem d_Txp_poke_14 : decode b_Txp_poke 14 = .ok (.getfield 9, 3) := by decide +kernel
theorem d_Txp_poke_17 : decode b_Txp_poke 17 = .ok (.iload_n 1, 1) := by decide +kernel
theorem d_Txp_poke_18 : decode b_Txp_poke 18 = .ok (.iload_n 2, 1) := by decide +kernel
theorem d_Txp_poke_19 : decode b_Txp_poke 19 = .ok (.iastore, 1) := by decide +kernel
theorem d_Txp_poke_20 : decode b_Txp_poke 20 = .ok (.return_, 1) := by decide +kernel
theorem q_Txp_poke : px_y y_Txp_poke 2 := by unfold px_y; decide +kernel
set_option maxHeartbeats 4000000 in
set_option maxRecDepth 100000 in
theorem c_Txp_poke (l : Launch) (D : va_G) (cs : Nat → ClassId) (h : Nat) (r : Nat → Nat) (g : Nat → Nat → Option Nat) (hp : Nat) (f : Nat → Int32) (a : Nat → Nat → Int32) (p0 p1 : Int32)  (hinv0 : TxOk (f 4) (f 5) (f 8) (f 9) (f 17) (f 21) (a 2)) : MetV l y_Txp_poke b_Txp_poke 3 D cs 0 0 (0) (0) [.ref h, .int p0, .int p1] [wd_Txp cs h r (fun k => if k = 3 then (some hp) else none) f a g] (fun _ => True) (fun ps => ∃ (f' : Nat → Int32) (a' : Nat → Nat → Int32), (ps = [wd_Txp cs h r (fun k => if k = 3 then (some hp) else none) f' a' g]) ∧ (TxOk (f' 4) (f' 5) (f' 8) (f' 9) (f' 17) (f' 21) (a' 2)) ∧ ((f' 9).toInt = (f 9).toInt) ∧ ((f' 17).toInt = (f 17).toInt) ∧ ((f' 21).toInt = (f 21).toInt) ∧ ((f' 15).toInt = (f 15).toInt) ∧ ((f' 20).toInt = (f 20).toInt) ∧ ((f' 4).toInt = (f 4).toInt) ∧ (R_Txp_poke p0 p1 f a f' a')) := by
  refine px_enter (by decide) (Nat.le_of_ble_eq_true rfl) ?_
  intro p e s m below meth c A ls hAe S hr hlk hnm hA hT hX hw hl
  have hl : lv_has ls 3 [(0, .ref h), (1, .int p0), (2, .int p1)] := hl
  have lp0 := Int32.le_toInt p0
  have up0 := Int32.toInt_lt p0
  have lp1 := Int32.le_toInt p1
  have up1 := Int32.toInt_lt p1
  obtain ⟨lk, ⟨i2, i3⟩, ⟨i4, i5⟩, ⟨i6, i7⟩, i8, ⟨i9, i11⟩, i10, hrt⟩ := hinv0
  refine lv_iload_n S.x S.b d_Txp_poke_0 rfl (lv_at hl 1 rfl) ?_
  refine lv_if_lt (tgt := 20) S.x S.b d_Txp_poke_1 (by decide) (fun c1 => ?_) (fun c1 => ?_)
  · have nc1 : p0.toInt < (0 : Int) := (i_lt (x := p0) (y := 0)).mp c1
    first | exact px_vret S hr hlk hAe hw (Nat.le_of_ble_eq_true rfl) (Nat.le_of_ble_eq_true rfl) (⟨f, a, rfl, (show TxOk (f 4) (f 5) (f 8) (f 9) (f 17) (f 21) (a 2) from ⟨lk, ⟨i2, i3⟩, ⟨i4, i5⟩, ⟨i6, i7⟩, i8, ⟨i9, i11⟩, i10, hrt⟩), (show (f 9).toInt = (f 9).toInt from rfl), (show (f 17).toInt = (f 17).toInt from rfl), (show (f 21).toInt = (f 21).toInt from rfl), (show (f 15).toInt = (f 15).toInt from rfl), (show (f 20).toInt = (f 20).toInt from rfl), (show (f 4).toInt = (f 4).toInt from rfl), (show R_Txp_poke p0 p1 f a f a from (Or.inl (Or.inl ⟨nc1, rfl, rfl⟩)))⟩) d_Txp_poke_20 | exact px_vret S hr hlk hAe hw (Nat.le_of_ble_eq_true rfl) (Nat.le_of_ble_eq_true rfl) (⟨f, a, rfl, (show TxOk (f 4) (f 5) (f 8) (f 9) (f 17) (f 21) (a 2) from ⟨lk, ⟨by first | exact i2 | omega, by first | exact i3 | omega⟩, ⟨by first | exact i4 | omega, by first | exact i5 | omega⟩, ⟨by first | exact i6 | omega, by first | exact i7 | omega⟩, by first | exact i8 | omega, ⟨by first | exact i9 | omega, by first | exact i11 | omega⟩, by first | exact i10 | omega, hrt⟩), (show (f 9).toInt = (f 9).toInt from rfl), (show (f 17).toInt = (f 17).toInt from rfl), (show (f 21).toInt = (f 21).toInt from rfl), (show (f 15).toInt = (f 15).toInt from rfl), (show (f 20).toInt = (f 20).toInt from rfl), (show (f 4).toInt = (f 4).toInt from rfl), (show R_Txp_poke p0 p1 f a f a from (Or.inl (Or.inl ⟨nc1, rfl, rfl⟩)))⟩) d_Txp_poke_20
  · have nc1 : ¬ p0.toInt < (0 : Int) := mt (i_lt (x := p0) (y := 0)).mpr c1
    refine lv_iload_n S.x S.b d_Txp_poke_4 rfl (lv_at hl 1 rfl) ?_
    refine lv_aload_n S.x S.b d_Txp_poke_5 rfl (lv_at hl 0 rfl) ?_
    refine px_get S k_Txp hT hw 0 0 0 (v := .ref (r 0)) rfl rfl rfl (by decide) m6_213 d_Txp_poke_6 ?_
    refine px_len S hT hw 0 1 0 rfl rfl rfl (v := 8704) rfl d_Txp_poke_9 ?_
    refine lv_icmp_ge (tgt := 20) S.x S.b d_Txp_poke_10 (by decide) (fun c3 => ?_) (fun c3 => ?_)
    · have nc3 : (8704 : Int) ≤ p0.toInt := (i_le (x := 8704) (y := p0)).mp c3
      first | exact px_vret S hr hlk hAe hw (Nat.le_of_ble_eq_true rfl) (Nat.le_of_ble_eq_true rfl) (⟨f, a, rfl, (show TxOk (f 4) (f 5) (f 8) (f 9) (f 17) (f 21) (a 2) from ⟨lk, ⟨i2, i3⟩, ⟨i4, i5⟩, ⟨i6, i7⟩, i8, ⟨i9, i11⟩, i10, hrt⟩), (show (f 9).toInt = (f 9).toInt from rfl), (show (f 17).toInt = (f 17).toInt from rfl), (show (f 21).toInt = (f 21).toInt from rfl), (show (f 15).toInt = (f 15).toInt from rfl), (show (f 20).toInt = (f 20).toInt from rfl), (show (f 4).toInt = (f 4).toInt from rfl), (show R_Txp_poke p0 p1 f a f a from (Or.inl (Or.inr ⟨nc1, Or.inl ⟨nc3, rfl, rfl⟩⟩)))⟩) d_Txp_poke_20 | exact px_vret S hr hlk hAe hw (Nat.le_of_ble_eq_true rfl) (Nat.le_of_ble_eq_true rfl) (⟨f, a, rfl, (show TxOk (f 4) (f 5) (f 8) (f 9) (f 17) (f 21) (a 2) from ⟨lk, ⟨by first | exact i2 | omega, by first | exact i3 | omega⟩, ⟨by first | exact i4 | omega, by first | exact i5 | omega⟩, ⟨by first | exact i6 | omega, by first | exact i7 | omega⟩, by first | exact i8 | omega, ⟨by first | exact i9 | omega, by first | exact i11 | omega⟩, by first | exact i10 | omega, hrt⟩), (show (f 9).toInt = (f 9).toInt from rfl), (show (f 17).toInt = (f 17).toInt from rfl), (show (f 21).toInt = (f 21).toInt from rfl), (show (f 15).toInt = (f 15).toInt from rfl), (show (f 20).toInt = (f 20).toInt from rfl), (show (f 4).toInt = (f 4).toInt from rfl), (show R_Txp_poke p0 p1 f a f a from (Or.inl (Or.inr ⟨nc1, Or.inl ⟨nc3, rfl, rfl⟩⟩)))⟩) d_Txp_poke_20
    · have nc3 : ¬ (8704 : Int) ≤ p0.toInt := mt (i_le (x := 8704) (y := p0)).mpr c3
      refine lv_aload_n S.x S.b d_Txp_poke_13 rfl (lv_at hl 0 rfl) ?_
      refine px_get S k_Txp hT hw 0 0 0 (v := .ref (r 0)) rfl rfl rfl (by decide) m6_213 d_Txp_poke_14 ?_
      refine lv_iload_n S.x S.b d_Txp_poke_17 rfl (lv_at hl 1 rfl) ?_
      refine lv_iload_n S.x S.b d_Txp_poke_18 rfl (lv_at hl 2 rfl) ?_
      refine px_iast S hT hw 0 1 (n := 8704) (f := (a 0)) (x := p0) (y := p1) rfl (ga_Txp_0 _ _ _ _ _ _ _) (vp_in_iff.mpr (by constructor <;> omega)) d_Txp_poke_19 (w' := wd_Txp cs h r (fun k => if k = 3 then (some hp) else none) f (va_up a 0 (upd (a 0) p0.toNatClampNeg p1)) g) (ps' := [wd_Txp cs h r (fun k => if k = 3 then (some hp) else none) f (va_up a 0 (upd (a 0) p0.toNatClampNeg p1)) g]) (sa_Txp_0 _ _ _ _ _ _ _ _) rfl (fun H locs hw => ?_)
      first | exact px_vret S hr hlk hAe hw (Nat.le_of_ble_eq_true rfl) (Nat.le_of_ble_eq_true rfl) (⟨f, (va_up a 0 (upd (a 0) p0.toNatClampNeg p1)), rfl, (show TxOk (f 4) (f 5) (f 8) (f 9) (f 17) (f 21) ((va_up a 0 (upd (a 0) p0.toNatClampNeg p1)) 2) from ⟨lk, ⟨i2, i3⟩, ⟨i4, i5⟩, ⟨i6, i7⟩, i8, ⟨i9, i11⟩, i10, (by rw [va_up_n (by decide)]; exact hrt)⟩), (show (f 9).toInt = (f 9).toInt from rfl), (show (f 17).toInt = (f 17).toInt from rfl), (show (f 21).toInt = (f 21).toInt from rfl), (show (f 15).toInt = (f 15).toInt from rfl), (show (f 20).toInt = (f 20).toInt from rfl), (show (f 4).toInt = (f 4).toInt from rfl), (show R_Txp_poke p0 p1 f a f (va_up a 0 (upd (a 0) p0.toNatClampNeg p1)) from (Or.inl (Or.inr ⟨nc1, Or.inr ⟨nc3, rfl, rfl⟩⟩)))⟩) d_Txp_poke_20 | exact px_vret S hr hlk hAe hw (Nat.le_of_ble_eq_true rfl) (Nat.le_of_ble_eq_true rfl) (⟨f, (va_up a 0 (upd (a 0) p0.toNatClampNeg p1)), rfl, (show TxOk (f 4) (f 5) (f 8) (f 9) (f 17) (f 21) ((va_up a 0 (upd (a 0) p0.toNatClampNeg p1)) 2) from ⟨lk, ⟨by first | exact i2 | omega, by first | exact i3 | omega⟩, ⟨by first | exact i4 | omega, by first | exact i5 | omega⟩, ⟨by first | exact i6 | omega, by first | exact i7 | omega⟩, by first | exact i8 | omega, ⟨by first | exact i9 | omega, by first | exact i11 | omega⟩, by first | exact i10 | omega, (by rw [va_up_n (by decide)]; exact hrt)⟩), (show (f 9).toInt = (f 9).toInt from rfl), (show (f 17).toInt = (f 17).toInt from rfl), (show (f 21).toInt = (f 21).toInt from rfl), (show (f 15).toInt = (f 15).toInt from rfl), (show (f 20).toInt = (f 20).toInt from rfl), (show (f 4).toInt = (f 4).toInt from rfl), (show R_Txp_poke p0 p1 f a f (va_up a 0 (upd (a 0) p0.toNatClampNeg p1)) from (Or.inl (Or.inr ⟨nc1, Or.inr ⟨nc3, rfl, rfl⟩⟩)))⟩) d_Txp_poke_20
abbrev b_Txp_push : ByteArray := prog_11_method_10_code
def y_Txp_push : MethodName := ⟨"HomeSystem$TextProcess", "push", "(I)V"⟩
theorem d_Txp_push_0 : decode b_Txp_push 0 = .ok (.aload_n 0, 1) := by decide +kernel
theorem d_Txp_push_1 : decode b_Txp_push 1 = .ok (.getfield 44, 3) := by decide +kernel
theorem d_Txp_push_4 : decode b_Txp_push 4 = .ok (.aload_n 0, 1) := by decide +kernel
theorem d_Txp_push_5 : decode b_Txp_push 5 = .ok (.getfield 15, 3) := by decide +kernel
theorem d_Txp_push_8 : decode b_Txp_push 8 = .ok (.arraylength, 1) := by decide +kernel
theorem d_Txp_push_9 : decode b_Txp_push 9 = .ok (.if_icmp .ge 23, 3) := by decide +kernel
theorem d_Txp_push_12 : decode b_Txp_push 12 = .ok (.aload_n 0, 1) := by decide +kernel
theorem d_Txp_push_13 : decode b_Txp_push 13 = .ok (.getfield 15, 3) := by decide +kernel
theorem d_Txp_push_16 : decode b_Txp_push 16 = .ok (.aload_n 0, 1) := by decide +kernel
theorem d_Txp_push_17 : decode b_Txp_push 17 = .ok (.getfield 44, 3) := by decide +kernel
theorem d_Txp_push_20 : decode b_Txp_push 20 = .ok (.iload_n 1, 1) := by decide +kernel
theorem d_Txp_push_21 : decode b_Txp_push 21 = .ok (.iastore, 1) := by decide +kernel
theorem d_Txp_push_22 : decode b_Txp_push 22 = .ok (.aload_n 0, 1) := by decide +kernel
theorem d_Txp_push_23 : decode b_Txp_push 23 = .ok (.dup, 1) := by decide +kernel
theorem d_Txp_push_24 : decode b_Txp_push 24 = .ok (.getfield 44, 3) := by decide +kernel
theorem d_Txp_push_27 : decode b_Txp_push 27 = .ok (.iconst 1, 1) := by decide +kernel
theorem d_Txp_push_28 : decode b_Txp_push 28 = .ok (.iadd, 1) := by decide +kernel
theorem d_Txp_push_29 : decode b_Txp_push 29 = .ok (.putfield 44, 3) := by decide +kernel
theorem d_Txp_push_32 : decode b_Txp_push 32 = .ok (.return_, 1) := by decide +kernel
theorem q_Txp_push : px_y y_Txp_push 1 := by unfold px_y; decide +kernel
set_option maxHeartbeats 4000000 in
set_option maxRecDepth 100000 in
theorem c_Txp_push (l : Launch) (D : va_G) (cs : Nat → ClassId) (h : Nat) (r : Nat → Nat) (g : Nat → Nat → Option Nat) (hp : Nat) (f : Nat → Int32) (a : Nat → Nat → Int32) (p0 : Int32)  (hinv0 : TxOk (f 4) (f 5) (f 8) (f 9) (f 17) (f 21) (a 2)) : MetV l y_Txp_push b_Txp_push 2 D cs 0 0 (0) (0) [.ref h, .int p0] [wd_Txp cs h r (fun k => if k = 3 then (some hp) else none) f a g] (fun _ => True) (fun ps => ∃ (f' : Nat → Int32) (a' : Nat → Nat → Int32), (ps = [wd_Txp cs h r (fun k => if k = 3 then (some hp) else none) f' a' g]) ∧ (TxOk (f' 4) (f' 5) (f' 8) (f' 9) (f' 17) (f' 21) (a' 2)) ∧ ((f' 9).toInt = (f 9).toInt) ∧ ((f' 17).toInt = (f 17).toInt) ∧ ((f' 21).toInt = (f 21).toInt) ∧ ((f' 15).toInt = (f 15).toInt) ∧ ((f' 20).toInt = (f 20).toInt) ∧ ((f' 4).toInt = (f 4).toInt) ∧ (R_Txp_push p0 f a f' a')) := by
  refine px_enter (by decide) (Nat.le_of_ble_eq_true rfl) ?_
  intro p e s m below meth c A ls hAe S hr hlk hnm hA hT hX hw hl
  have hl : lv_has ls 2 [(0, .ref h), (1, .int p0)] := hl
  have lp0 := Int32.le_toInt p0
  have up0 := Int32.toInt_lt p0
  have cst1 : (1 : Int32).toInt = 1 := rfl
  obtain ⟨lk, ⟨i2, i3⟩, ⟨i4, i5⟩, ⟨i6, i7⟩, i8, ⟨i9, i11⟩, i10, hrt⟩ := hinv0
  refine lv_aload_n S.x S.b d_Txp_push_0 rfl (lv_at hl 0 rfl) ?_
  refine px_get S k_Txp hT hw 0 0 5 (v := .int (f 5)) rfl rfl rfl (by decide) m6_218 d_Txp_push_1 ?_
  refine lv_aload_n S.x S.b d_Txp_push_4 rfl (lv_at hl 0 rfl) ?_
  refine px_get S k_Txp hT hw 0 0 1 (v := .ref (r 1)) rfl rfl rfl (by decide) m6_214 d_Txp_push_5 ?_
  refine px_len S hT hw 0 2 0 rfl rfl rfl (v := 516) rfl d_Txp_push_8 ?_
  refine lv_icmp_ge (tgt := 32) S.x S.b d_Txp_push_9 (by decide) (fun c1 => ?_) (fun c1 => ?_)
  · have nc1 : (516 : Int) ≤ (f 5).toInt := (i_le (x := 516) (y := (f 5))).mp c1
    first | exact px_vret S hr hlk hAe hw (Nat.le_of_ble_eq_true rfl) (Nat.le_of_ble_eq_true rfl) (⟨f, a, rfl, (show TxOk (f 4) (f 5) (f 8) (f 9) (f 17) (f 21) (a 2) from ⟨lk, ⟨i2, i3⟩, ⟨i4, i5⟩, ⟨i6, i7⟩, i8, ⟨i9, i11⟩, i10, hrt⟩), (show (f 9).toInt = (f 9).toInt from rfl), (show (f 17).toInt = (f 17).toInt from rfl), (show (f 21).toInt = (f 21).toInt from rfl), (show (f 15).toInt = (f 15).toInt from rfl), (show (f 20).toInt = (f 20).toInt from rfl), (show (f 4).toInt = (f 4).toInt from rfl), (show R_Txp_push p0 f a f a from (Or.inl (Or.inl ⟨nc1, rfl, rfl⟩)))⟩) d_Txp_push_32 | exact px_vret S hr hlk hAe hw (Nat.le_of_ble_eq_true rfl) (Nat.le_of_ble_eq_true rfl) (⟨f, a, rfl, (show TxOk (f 4) (f 5) (f 8) (f 9) (f 17) (f 21) (a 2) from ⟨lk, ⟨by first | exact i2 | omega, by first | exact i3 | omega⟩, ⟨by first | exact i4 | omega, by first | exact i5 | omega⟩, ⟨by first | exact i6 | omega, by first | exact i7 | omega⟩, by first | exact i8 | omega, ⟨by first | exact i9 | omega, by first | exact i11 | omega⟩, by first | exact i10 | omega, hrt⟩), (show (f 9).toInt = (f 9).toInt from rfl), (show (f 17).toInt = (f 17).toInt from rfl), (show (f 21).toInt = (f 21).toInt from rfl), (show (f 15).toInt = (f 15).toInt from rfl), (show (f 20).toInt = (f 20).toInt from rfl), (show (f 4).toInt = (f 4).toInt from rfl), (show R_Txp_push p0 f a f a from (Or.inl (Or.inl ⟨nc1, rfl, rfl⟩)))⟩) d_Txp_push_32
  · have nc1 : ¬ (516 : Int) ≤ (f 5).toInt := mt (i_le (x := 516) (y := (f 5))).mpr c1
    refine lv_aload_n S.x S.b d_Txp_push_12 rfl (lv_at hl 0 rfl) ?_
    refine px_get S k_Txp hT hw 0 0 1 (v := .ref (r 1)) rfl rfl rfl (by decide) m6_214 d_Txp_push_13 ?_
    refine lv_aload_n S.x S.b d_Txp_push_16 rfl (lv_at hl 0 rfl) ?_
    refine px_get S k_Txp hT hw 0 0 5 (v := .int (f 5)) rfl rfl rfl (by decide) m6_218 d_Txp_push_17 ?_
    refine lv_iload_n S.x S.b d_Txp_push_20 rfl (lv_at hl 1 rfl) ?_
    refine px_iast S hT hw 0 2 (n := 516) (f := (a 1)) (x := (f 5)) (y := p0) rfl (ga_Txp_1 _ _ _ _ _ _ _) (vp_in_iff.mpr (by constructor <;> omega)) d_Txp_push_21 (w' := wd_Txp cs h r (fun k => if k = 3 then (some hp) else none) f (va_up a 1 (upd (a 1) (f 5).toNatClampNeg p0)) g) (ps' := [wd_Txp cs h r (fun k => if k = 3 then (some hp) else none) f (va_up a 1 (upd (a 1) (f 5).toNatClampNeg p0)) g]) (sa_Txp_1 _ _ _ _ _ _ _ _) rfl (fun H locs hw => ?_)
    refine lv_aload_n S.x S.b d_Txp_push_22 rfl (lv_at hl 0 rfl) ?_
    refine lv_dup S.x S.b d_Txp_push_23 rfl ?_
    refine px_get S k_Txp hT hw 0 0 5 (v := .int (f 5)) rfl rfl rfl (by decide) m6_218 d_Txp_push_24 ?_
    refine lv_iconst (v := 1) S.x S.b d_Txp_push_27 (by decide) ?_
    refine lv_iadd S.x S.b d_Txp_push_28 ?_
    have lr3 := Int32.le_toInt (f 5)
    have ur3 := Int32.toInt_lt (f 5)
    refine lv_topi (fun z4 ez4 => ?_)
    have tz4 : z4.toInt = ((f 5).toInt + (1 : Int) + 2147483648) % 4294967296 - 2147483648 := by rw [ez4]; exact i_add (f 5) 1
    have lz4 := Int32.le_toInt z4
    have uz4 := Int32.toInt_lt z4
    try replace tz4 : z4.toInt = (f 5).toInt + (1 : Int) := by omega
    refine px_put S k_Txp hT hw 0 0 5 rfl rfl (by decide) m6_218 rfl rfl rfl (Nat.le_of_ble_eq_true rfl) d_Txp_push_29 (w' := wd_Txp cs h r (fun k => if k = 3 then (some hp) else none) (upd f 5 z4) (va_up a 1 (upd (a 1) (f 5).toNatClampNeg p0)) g) (ps' := [wd_Txp cs h r (fun k => if k = 3 then (some hp) else none) (upd f 5 z4) (va_up a 1 (upd (a 1) (f 5).toNatClampNeg p0)) g]) rfl rfl (fun H locs hw => ?_)
    first | exact px_vret S hr hlk hAe hw (Nat.le_of_ble_eq_true rfl) (Nat.le_of_ble_eq_true rfl) (⟨(upd f 5 z4), (va_up a 1 (upd (a 1) (f 5).toNatClampNeg p0)), rfl, (show TxOk (f 4) z4 (f 8) (f 9) (f 17) (f 21) ((va_up a 1 (upd (a 1) (f 5).toNatClampNeg p0)) 2) from ⟨lk, ⟨(oz_b3b25f0e49 tz4 i2), (oz_675fb4090f tz4 nc1)⟩, ⟨i4, i5⟩, ⟨i6, i7⟩, i8, ⟨i9, i11⟩, i10, (by rw [va_up_n (by decide)]; exact hrt)⟩), (show (f 9).toInt = (f 9).toInt from rfl), (show (f 17).toInt = (f 17).toInt from rfl), (show (f 21).toInt = (f 21).toInt from rfl), (show (f 15).toInt = (f 15).toInt from rfl), (show (f 20).toInt = (f 20).toInt from rfl), (show (f 4).toInt = (f 4).toInt from rfl), (show R_Txp_push p0 f a (upd f 5 z4) (va_up a 1 (upd (a 1) (f 5).toNatClampNeg p0)) from (Or.inl (Or.inr ⟨nc1, z4, ez4, rfl, rfl⟩)))⟩) d_Txp_push_32 | exact px_vret S hr hlk hAe hw (Nat.le_of_ble_eq_true rfl) (Nat.le_of_ble_eq_true rfl) (⟨(upd f 5 z4), (va_up a 1 (upd (a 1) (f 5).toNatClampNeg p0)), rfl, (show TxOk (f 4) z4 (f 8) (f 9) (f 17) (f 21) ((va_up a 1 (upd (a 1) (f 5).toNatClampNeg p0)) 2) from ⟨lk, ⟨by first | exact oz_b3b25f0e49 tz4 i2 | omega, by first | exact oz_675fb4090f tz4 nc1 | omega⟩, ⟨by first | exact i4 | omega, by first | exact i5 | omega⟩, ⟨by first | exact i6 | omega, by first | exact i7 | omega⟩, by first | exact i8 | omega, ⟨by first | exact i9 | omega, by first | exact i11 | omega⟩, by first | exact i10 | omega, (by rw [va_up_n (by decide)]; exact hrt)⟩), (show (f 9).toInt = (f 9).toInt from rfl), (show (f 17).toInt = (f 17).toInt from rfl), (show (f 21).toInt = (f 21).toInt from rfl), (show (f 15).toInt = (f 15).toInt from rfl), (show (f 20).toInt = (f 20).toInt from rfl), (show (f 4).toInt = (f 4).toInt from rfl), (show R_Txp_push p0 f a (upd f 5 z4) (va_up a 1 (upd (a 1) (f 5).toNatClampNeg p0)) from (Or.inl (Or.inr ⟨nc1, z4, ez4, rfl, rfl⟩)))⟩) d_Txp_push_32
abbrev b_Txp_pop : ByteArray := prog_11_method_11_code
def y_Txp_pop : MethodName := ⟨"HomeSystem$TextProcess", "pop", "()I"⟩
theorem d_Txp_pop_0 : decode b_Txp_pop 0 = .ok (.aload_n 0, 1) := by decide +kernel
theorem d_Txp_pop_1 : decode b_Txp_pop 1 = .ok (.getfield 44, 3) := by decide +kernel
theorem d_Txp_pop_4 : decode b_Txp_pop 4 = .ok (.ifCond .le 13, 3) := by decide +kernel
theorem d_Txp_pop_7 : decode b_Txp_pop 7 = .ok (.aload_n 0, 1) := by decide +kernel
theorem d_Txp_pop_8 : decode b_Txp_pop 8 = .ok (.dup, 1) := by decide +kernel
theorem d_Txp_pop_9 : decode b_Txp_pop 9 = .ok (.getfield 44, 3) := by decide +kernel
theorem d_Txp_pop_12 : decode b_Txp_pop 12 = .ok (.iconst 1, 1) := by decide +kernel
theorem d_Txp_pop_13 : decode b_Txp_pop 13 = .ok (.isub, 1) := by decide +kernel
theorem d_Txp_pop_14 : decode b_Txp_pop 14 = .ok (.putfield 44, 3) := by decide +kernel
theorem d_Txp_pop_17 : decode b_Txp_pop 17 = .ok (.aload_n 0, 1) := by decide +kernel
theorem d_Txp_pop_18 : decode b_Txp_pop 18 = .ok (.getfield 15, 3) := by decide +kernel
theorem d_Txp_pop_21 : decode b_Txp_pop 21 = .ok (.aload_n 0, 1) := by decide +kernel
theorem d_Txp_pop_22 : decode b_Txp_pop 22 = .ok (.getfield 44, 3) := by decide +kernel
theorem d_Txp_pop_25 : decode b_Txp_pop 25 = .ok (.iaload, 1) := by decide +kernel
theorem d_Txp_pop_26 : decode b_Txp_pop 26 = .ok (.ireturn, 1) := by decide +kernel
theorem q_Txp_pop : px_y y_Txp_pop 0 := by unfold px_y; decide +kernel
set_option maxHeartbeats 4000000 in
set_option maxRecDepth 100000 in
theorem c_Txp_pop (l : Launch) (D : va_G) (cs : Nat → ClassId) (h : Nat) (r : Nat → Nat) (g : Nat → Nat → Option Nat) (hp : Nat) (f : Nat → Int32) (a : Nat → Nat → Int32)  (hinv0 : TxOk (f 4) (f 5) (f 8) (f 9) (f 17) (f 21) (a 2)) : MetI l y_Txp_pop b_Txp_pop 1 (.int) D cs 0 0 (0) (0) [.ref h] [wd_Txp cs h r (fun k => if k = 3 then (some hp) else none) f a g] (fun _ => True) (fun v ps => ∃ (f' : Nat → Int32) (a' : Nat → Nat → Int32), (ps = [wd_Txp cs h r (fun k => if k = 3 then (some hp) else none) f' a' g]) ∧ (TxOk (f' 4) (f' 5) (f' 8) (f' 9) (f' 17) (f' 21) (a' 2)) ∧ ((f' 9).toInt = (f 9).toInt) ∧ ((f' 17).toInt = (f 17).toInt) ∧ ((f' 21).toInt = (f 21).toInt) ∧ ((f' 15).toInt = (f 15).toInt) ∧ ((f' 20).toInt = (f 20).toInt) ∧ ((f' 4).toInt = (f 4).toInt) ∧ (R_Txp_pop f a f' a' v)) := by
  refine px_enter (by decide) (Nat.le_of_ble_eq_true rfl) ?_
  intro p e s m below meth c A ls hAe S hr hlk hnm hA hT hX hw hl
  have hl : lv_has ls 1 [(0, .ref h)] := hl
  have cst1 : (1 : Int32).toInt = 1 := rfl
  obtain ⟨lk, ⟨i2, i3⟩, ⟨i4, i5⟩, ⟨i6, i7⟩, i8, ⟨i9, i11⟩, i10, hrt⟩ := hinv0
  refine lv_aload_n S.x S.b d_Txp_pop_0 rfl (lv_at hl 0 rfl) ?_
  refine px_get S k_Txp hT hw 0 0 5 (v := .int (f 5)) rfl rfl rfl (by decide) m6_218 d_Txp_pop_1 ?_
  refine lv_if_le (tgt := 17) S.x S.b d_Txp_pop_4 (by decide) (fun c1 => ?_) (fun c1 => ?_)
  · have nc1 : (f 5).toInt ≤ (0 : Int) := (i_le (x := (f 5)) (y := 0)).mp c1
    refine lv_aload_n S.x S.b d_Txp_pop_17 rfl (lv_at hl 0 rfl) ?_
    refine px_get S k_Txp hT hw 0 0 1 (v := .ref (r 1)) rfl rfl rfl (by decide) m6_214 d_Txp_pop_18 ?_
    refine lv_aload_n S.x S.b d_Txp_pop_21 rfl (lv_at hl 0 rfl) ?_
    refine px_get S k_Txp hT hw 0 0 5 (v := .int (f 5)) rfl rfl rfl (by decide) m6_218 d_Txp_pop_22 ?_
    refine px_iald S hT hw 0 2 (n := 516) (f := (a 1)) rfl (ga_Txp_1 _ _ _ _ _ _ _) (x := (f 5)) (vp_in_iff.mpr (by first | exact oz_c060c3d60c i2 nc1 | (constructor <;> omega))) d_Txp_pop_25 ?_
    refine lv_topi (fun z3 ez3 => ?_)
    have lz3 := Int32.le_toInt z3
    have uz3 := Int32.toInt_lt z3
    first | exact px_iret (v := z3) S hr rfl hlk hAe hw (Nat.le_of_ble_eq_true rfl) (Nat.le_of_ble_eq_true rfl) (⟨f, a, rfl, (show TxOk (f 4) (f 5) (f 8) (f 9) (f 17) (f 21) (a 2) from ⟨lk, ⟨i2, i3⟩, ⟨i4, i5⟩, ⟨i6, i7⟩, i8, ⟨i9, i11⟩, i10, hrt⟩), (show (f 9).toInt = (f 9).toInt from rfl), (show (f 17).toInt = (f 17).toInt from rfl), (show (f 21).toInt = (f 21).toInt from rfl), (show (f 15).toInt = (f 15).toInt from rfl), (show (f 20).toInt = (f 20).toInt from rfl), (show (f 4).toInt = (f 4).toInt from rfl), (show R_Txp_pop f a f a z3 from (Or.inl (Or.inl ⟨nc1, z3, ez3, rfl, rfl, rfl⟩)))⟩) d_Txp_pop_26 | exact px_iret (v := z3) S hr rfl hlk hAe hw (Nat.le_of_ble_eq_true rfl) (Nat.le_of_ble_eq_true rfl) (⟨f, a, rfl, (show TxOk (f 4) (f 5) (f 8) (f 9) (f 17) (f 21) (a 2) from ⟨lk, ⟨by first | exact i2 | omega, by first | exact i3 | omega⟩, ⟨by first | exact i4 | omega, by first | exact i5 | omega⟩, ⟨by first | exact i6 | omega, by first | exact i7 | omega⟩, by first | exact i8 | omega, ⟨by first | exact i9 | omega, by first | exact i11 | omega⟩, by first | exact i10 | omega, hrt⟩), (show (f 9).toInt = (f 9).toInt from rfl), (show (f 17).toInt = (f 17).toInt from rfl), (show (f 21).toInt = (f 21).toInt from rfl), (show (f 15).toInt = (f 15).toInt from rfl), (show (f 20).toInt = (f 20).toInt from rfl), (show (f 4).toInt = (f 4).toInt from rfl), (show R_Txp_pop f a f a z3 from (Or.inl (Or.inl ⟨nc1, z3, ez3, rfl, rfl, rfl⟩)))⟩) d_Txp_pop_26
  · have nc1 : ¬ (f 5).toInt ≤ (0 : Int) := mt (i_le (x := (f 5)) (y := 0)).mpr c1
    refine lv_aload_n S.x S.b d_Txp_pop_7 rfl (lv_at hl 0 rfl) ?_
    refine lv_dup S.x S.b d_Txp_pop_8 rfl ?_
    refine px_get S k_Txp hT hw 0 0 5 (v := .int (f 5)) rfl rfl rfl (by decide) m6_218 d_Txp_pop_9 ?_
    refine lv_iconst (v := 1) S.x S.b d_Txp_pop_12 (by decide) ?_
    refine lv_isub S.x S.b d_Txp_pop_13 ?_
    have lr4 := Int32.le_toInt (f 5)
    have ur4 := Int32.toInt_lt (f 5)
    refine lv_topi (fun z5 ez5 => ?_)
    have tz5 : z5.toInt = ((f 5).toInt - (1 : Int) + 2147483648) % 4294967296 - 2147483648 := by rw [ez5]; exact i_sub (f 5) 1
    have lz5 := Int32.le_toInt z5
    have uz5 := Int32.toInt_lt z5
    try replace tz5 : z5.toInt = (f 5).toInt - (1 : Int) := by omega
    refine px_put S k_Txp hT hw 0 0 5 rfl rfl (by decide) m6_218 rfl rfl rfl (Nat.le_of_ble_eq_true rfl) d_Txp_pop_14 (w' := wd_Txp cs h r (fun k => if k = 3 then (some hp) else none) (upd f 5 z5) a g) (ps' := [wd_Txp cs h r (fun k => if k = 3 then (some hp) else none) (upd f 5 z5) a g]) rfl rfl (fun H locs hw => ?_)
    refine lv_aload_n S.x S.b d_Txp_pop_17 rfl (lv_at hl 0 rfl) ?_
    refine px_get S k_Txp hT hw 0 0 1 (v := .ref (r 1)) rfl rfl rfl (by decide) m6_214 d_Txp_pop_18 ?_
    refine lv_aload_n S.x S.b d_Txp_pop_21 rfl (lv_at hl 0 rfl) ?_
    refine px_get S k_Txp hT hw 0 0 5 (v := .int z5) rfl rfl rfl (by decide) m6_218 d_Txp_pop_22 ?_
    refine px_iald S hT hw 0 2 (n := 516) (f := (a 1)) rfl (ga_Txp_1 _ _ _ _ _ _ _) (x := z5) (vp_in_iff.mpr (by first | exact oz_b341981ef4 tz5 nc1 i3 | (constructor <;> omega))) d_Txp_pop_25 ?_
    refine lv_topi (fun z6 ez6 => ?_)
    have lz6 := Int32.le_toInt z6
    have uz6 := Int32.toInt_lt z6
    first | exact px_iret (v := z6) S hr rfl hlk hAe hw (Nat.le_of_ble_eq_true rfl) (Nat.le_of_ble_eq_true rfl) (⟨(upd f 5 z5), a, rfl, (show TxOk (f 4) z5 (f 8) (f 9) (f 17) (f 21) (a 2) from ⟨lk, ⟨(oz_45420e1a93 tz5 nc1), (oz_f3c6005390 tz5 i3)⟩, ⟨i4, i5⟩, ⟨i6, i7⟩, i8, ⟨i9, i11⟩, i10, hrt⟩), (show (f 9).toInt = (f 9).toInt from rfl), (show (f 17).toInt = (f 17).toInt from rfl), (show (f 21).toInt = (f 21).toInt from rfl), (show (f 15).toInt = (f 15).toInt from rfl), (show (f 20).toInt = (f 20).toInt from rfl), (show (f 4).toInt = (f 4).toInt from rfl), (show R_Txp_pop f a (upd f 5 z5) a z6 from (Or.inl (Or.inr ⟨nc1, z5, ez5, z6, ez6, rfl, rfl, rfl⟩)))⟩) d_Txp_pop_26 | exact px_iret (v := z6) S hr rfl hlk hAe hw (Nat.le_of_ble_eq_true rfl) (Nat.le_of_ble_eq_true rfl) (⟨(upd f 5 z5), a, rfl, (show TxOk (f 4) z5 (f 8) (f 9) (f 17) (f 21) (a 2) from ⟨lk, ⟨by first | exact oz_45420e1a93 tz5 nc1 | omega, by first | exact oz_f3c6005390 tz5 i3 | omega⟩, ⟨by first | exact i4 | omega, by first | exact i5 | omega⟩, ⟨by first | exact i6 | omega, by first | exact i7 | omega⟩, by first | exact i8 | omega, ⟨by first | exact i9 | omega, by first | exact i11 | omega⟩, by first | exact i10 | omega, hrt⟩), (show (f 9).toInt = (f 9).toInt from rfl), (show (f 17).toInt = (f 17).toInt from rfl), (show (f 21).toInt = (f 21).toInt from rfl), (show (f 15).toInt = (f 15).toInt from rfl), (show (f 20).toInt = (f 20).toInt from rfl), (show (f 4).toInt = (f 4).toInt from rfl), (show R_Txp_pop f a (upd f 5 z5) a z6 from (Or.inl (Or.inr ⟨nc1, z5, ez5, z6, ez6, rfl, rfl, rfl⟩)))⟩) d_Txp_pop_26
abbrev b_Txp_rowStart : ByteArray := prog_11_method_15_code
def y_Txp_rowStart : MethodName := ⟨"HomeSystem$TextProcess", "rowStart", "(II)I"⟩
theorem d_Txp_rowStart_0 : decode b_Txp_rowStart 0 = .ok (.iload_n 1, 1) := by decide +kernel
theorem d_Txp_rowStart_1 : decode b_Txp_rowStart 1 = .ok (.bipush 8, 2) := by decide +kernel
theorem d_Txp_rowStart_3 : decode b_Txp_rowStart 3 = .ok (.iand, 1) := by decide +kernel
theorem d_Txp_rowStart_4 : decode b_Txp_rowStart 4 = .ok (.ifCond .eq 14, 3) := by decide +kernel
theorem d_Txp_rowStart_7 : decode b_Txp_rowStart 7 = .ok (.aload_n 0, 1) := by decide +kernel
theorem d_Txp_rowStart_8 : decode b_Txp_rowStart 8 = .ok (.aload_n 0, 1) := by decide +kernel
theorem d_Txp_rowStart_9 : decode b_Txp_rowStart 9 = .ok (.getfield 50, 3) := by decide +kernel
theorem d_Txp_rowStart_12 : decode b_Txp_rowStart 12 = .ok (.iload_n 2, 1) := by decide +kernel
theorem d_Txp_rowStart_13 : decode b_Txp_rowStart 13 = .ok (.iadd, 1) := by decide +kernel
theorem d_Txp_rowStart_14 : decode b_Txp_rowStart 14 = .ok (.invokevirtual 94, 3) := by decide +kernel
theorem d_Txp_rowStart_17 : decode b_Txp_rowStart 17 = .ok (.ireturn, 1) := by decide +kernel
theorem d_Txp_rowStart_18 : decode b_Txp_rowStart 18 = .ok (.iload_n 1, 1) := by decide +kernel
theorem d_Txp_rowStart_19 : decode b_Txp_rowStart 19 = .ok (.iconst 1, 1) := by decide +kernel
theorem d_Txp_rowStart_20 : decode b_Txp_rowStart 20 = .ok (.iand, 1) := by decide +kernel
theorem d_Txp_rowStart_21 : decode b_Txp_rowStart 21 = .ok (.ifCond .eq 12, 3) := by decide +kernel
theorem d_Txp_rowStart_24 : decode b_Txp_rowStart 24 = .ok (.aload_n 0, 1) := by decide +kernel
theorem d_Txp_rowStart_25 : decode b_Txp_rowStart 25 = .ok (.getfield 50, 3) := by decide +kernel
theorem d_Txp_rowStart_28 : decode b_Txp_rowStart 28 = .ok (.iload_n 2, 1) := by decide +kernel
theorem d_Txp_rowStart_29 : decode b_Txp_rowStart 29 = .ok (.iadd, 1) := by decide +kernel
theorem d_Txp_rowStart_30 : decode b_Txp_rowStart 30 = .ok (.goto 4, 3) := by decide +kernel
theorem d_Txp_rowStart_33 : decode b_Txp_rowStart 33 = .ok (.iload_n 2, 1) := by decide +kernel
theorem d_Txp_rowStart_34 : decode b_Txp_rowStart 34 = .ok (.ireturn, 1) := by decide +kernel
theorem q_Txp_rowStart : px_y y_Txp_rowStart 2 := by unfold px_y; decide +kernel
set_option maxHeartbeats 4000000 in
set_option maxRecDepth 100000 in
theorem c_Txp_rowStart (l : Launch) (D : va_G) (cs : Nat → ClassId) (h : Nat) (r : Nat → Nat) (g : Nat → Nat → Option Nat) (hp : Nat) (f : Nat → Int32) (a : Nat → Nat → Int32) (p0 p1 : Int32)  (hinv0 : TxOk (f 4) (f 5) (f 8) (f 9) (f 17) (f 21) (a 2)) : MetI l y_Txp_rowStart b_Txp_rowStart 3 (.int) D cs 1 30 (0) (0) [.ref h, .int p0, .int p1] [wd_Txp cs h r (fun k => if k = 3 then (some hp) else none) f a g] (fun _ => True) (fun v ps => (ps = [wd_Txp cs h r (fun k => if k = 3 then (some hp) else none) f a g]) ∧ (R_Txp_rowStart f a p0 p1 v)) := by
  refine px_enter (by decide) (Nat.le_of_ble_eq_true rfl) ?_
  intro p e s m below meth c A ls hAe S hr hlk hnm hA hT hX hw hl
  have hl : lv_has ls 3 [(0, .ref h), (1, .int p0), (2, .int p1)] := hl
  have lp0 := Int32.le_toInt p0
  have up0 := Int32.toInt_lt p0
  have lp1 := Int32.le_toInt p1
  have up1 := Int32.toInt_lt p1
  have cst1 : (1 : Int32).toInt = 1 := rfl
  have cst8 : (8 : Int32).toInt = 8 := rfl
  obtain ⟨lk, ⟨i2, i3⟩, ⟨i4, i5⟩, ⟨i6, i7⟩, i8, ⟨i9, i11⟩, i10, hrt⟩ := hinv0
  refine lv_iload_n S.x S.b d_Txp_rowStart_0 rfl (lv_at hl 1 rfl) ?_
  refine lv_bipush (v := 8) S.x S.b d_Txp_rowStart_1 (by decide) ?_
  refine lv_iand S.x S.b d_Txp_rowStart_3 ?_
  refine lv_topi (fun z1 ez1 => ?_)
  have lz1 := Int32.le_toInt z1
  have uz1 := Int32.toInt_lt z1
  refine lv_if_eq (tgt := 18) S.x S.b d_Txp_rowStart_4 (by decide) (fun c2 => ?_) (fun c2 => ?_)
  · have nc2 : z1.toInt = (0 : Int) := (i_eq (x := z1) (y := 0)).mp c2
    refine lv_iload_n S.x S.b d_Txp_rowStart_18 rfl (lv_at hl 1 rfl) ?_
    refine lv_iconst (v := 1) S.x S.b d_Txp_rowStart_19 (by decide) ?_
    refine lv_iand S.x S.b d_Txp_rowStart_20 ?_
    refine lv_topi (fun z4 ez4 => ?_)
    have lz4 := Int32.le_toInt z4
    have uz4 := Int32.toInt_lt z4
    have bz4 := i_andm p0 (m := 1) 1 (by decide) (by decide)
    rw [← ez4] at bz4
    have wz4 : 0 ≤ z4.toInt ∧ z4.toInt ≤ 1 := by simp only [Nat.reducePow, Int.reducePow] at bz4; omega
    refine lv_if_eq (tgt := 33) S.x S.b d_Txp_rowStart_21 (by decide) (fun c5 => ?_) (fun c5 => ?_)
    · have nc5 : z4.toInt = (0 : Int) := (i_eq (x := z4) (y := 0)).mp c5
      refine lv_iload_n S.x S.b d_Txp_rowStart_33 rfl (lv_at hl 2 rfl) ?_
      exact px_iret (v := p1) S hr rfl hlk hAe hw (Nat.le_of_ble_eq_true rfl) (Nat.le_of_ble_eq_true rfl) (⟨rfl, (show R_Txp_rowStart f a p0 p1 p1 from (Or.inl ⟨z1, ez1, Or.inl ⟨nc2, z4, ez4, Or.inl ⟨nc5, rfl⟩⟩⟩))⟩) d_Txp_rowStart_34
    · have nc5 : ¬ z4.toInt = (0 : Int) := mt (i_eq (x := z4) (y := 0)).mpr c5
      refine lv_aload_n S.x S.b d_Txp_rowStart_24 rfl (lv_at hl 0 rfl) ?_
      refine px_get S k_Txp hT hw 0 0 6 (v := .int (f 6)) rfl rfl rfl (by decide) m6_219 d_Txp_rowStart_25 ?_
      refine lv_iload_n S.x S.b d_Txp_rowStart_28 rfl (lv_at hl 2 rfl) ?_
      refine lv_iadd S.x S.b d_Txp_rowStart_29 ?_
      have lr7 := Int32.le_toInt (f 6)
      have ur7 := Int32.toInt_lt (f 6)
      refine lv_topi (fun z8 ez8 => ?_)
      have tz8 : z8.toInt = ((f 6).toInt + p1.toInt + 2147483648) % 4294967296 - 2147483648 := by rw [ez8]; exact i_add (f 6) p1
      have lz8 := Int32.le_toInt z8
      have uz8 := Int32.toInt_lt z8
      try replace tz8 : z8.toInt = (f 6).toInt + p1.toInt := by omega
      refine lv_goto (tgt := 34) S.x S.b d_Txp_rowStart_30 (by decide) ?_
      exact px_iret (v := z8) S hr rfl hlk hAe hw (Nat.le_of_ble_eq_true rfl) (Nat.le_of_ble_eq_true rfl) (⟨rfl, (show R_Txp_rowStart f a p0 p1 z8 from (Or.inl ⟨z1, ez1, Or.inl ⟨nc2, z4, ez4, Or.inr ⟨nc5, z8, ez8, rfl⟩⟩⟩))⟩) d_Txp_rowStart_34
  · have nc2 : ¬ z1.toInt = (0 : Int) := mt (i_eq (x := z1) (y := 0)).mpr c2
    refine lv_aload_n S.x S.b d_Txp_rowStart_7 rfl (lv_at hl 0 rfl) ?_
    refine lv_aload_n S.x S.b d_Txp_rowStart_8 rfl (lv_at hl 0 rfl) ?_
    refine px_get S k_Txp hT hw 0 0 6 (v := .int (f 6)) rfl rfl rfl (by decide) m6_219 d_Txp_rowStart_9 ?_
    refine lv_iload_n S.x S.b d_Txp_rowStart_12 rfl (lv_at hl 2 rfl) ?_
    refine lv_iadd S.x S.b d_Txp_rowStart_13 ?_
    have lr9 := Int32.le_toInt (f 6)
    have ur9 := Int32.toInt_lt (f 6)
    refine lv_topi (fun z10 ez10 => ?_)
    have tz10 : z10.toInt = ((f 6).toInt + p1.toInt + 2147483648) % 4294967296 - 2147483648 := by rw [ez10]; exact i_add (f 6) p1
    have lz10 := Int32.le_toInt z10
    have uz10 := Int32.toInt_lt z10
    try replace tz10 : z10.toInt = (f 6).toInt + p1.toInt := by omega
    first | refine px_calli (pr := []) (px_runV (As := [.int z10]) (rest := []) S (c_Txp_peek l D cs h r g hp f a z10  (show TxOk (f 4) (f 5) (f 8) (f 9) (f 17) (f 21) (a 2) from ⟨lk, ⟨i2, i3⟩, ⟨i4, i5⟩, ⟨i6, i7⟩, i8, ⟨i9, i11⟩, i10, hrt⟩) _) hT (pr := []) (pcs := [wd_Txp cs h r (fun k => if k = 3 then (some hp) else none) f a g]) hw px_X.tt (px_recv hT hw 0 0 rfl rfl rfl) m8_146 m8_143 m8_145 ms_5_15 m1_35 q_Txp_peek ⟨Nat.le_of_ble_eq_true rfl, Nat.le_of_ble_eq_true rfl⟩ hl.1 rfl (Nat.le_of_ble_eq_true rfl) d_Txp_rowStart_14 ⟨Nat.le_of_ble_eq_true rfl, Nat.le_of_ble_eq_true rfl⟩) hw hA (fun v12 p11 H locs hp11 hw => ?_) | refine px_calli (pr := []) (px_runV (As := [.int z10]) (rest := []) S (c_Txp_peek l D cs h r g hp f a z10  (show TxOk (f 4) (f 5) (f 8) (f 9) (f 17) (f 21) (a 2) from ⟨lk, ⟨by first | exact i2 | omega, by first | exact i3 | omega⟩, ⟨by first | exact i4 | omega, by first | exact i5 | omega⟩, ⟨by first | exact i6 | omega, by first | exact i7 | omega⟩, by first | exact i8 | omega, ⟨by first | exact i9 | omega, by first | exact i11 | omega⟩, by first | exact i10 | omega, hrt⟩) _) hT (pr := []) (pcs := [wd_Txp cs h r (fun k => if k = 3 then (some hp) else none) f a g]) hw px_X.tt (px_recv hT hw 0 0 rfl rfl rfl) m8_146 m8_143 m8_145 ms_5_15 m1_35 q_Txp_peek ⟨Nat.le_of_ble_eq_true rfl, Nat.le_of_ble_eq_true rfl⟩ hl.1 rfl (Nat.le_of_ble_eq_true rfl) d_Txp_rowStart_14 ⟨Nat.le_of_ble_eq_true rfl, Nat.le_of_ble_eq_true rfl⟩) hw hA (fun v12 p11 H locs hp11 hw => ?_)
    obtain ⟨rfl, e13⟩ := hp11
    have e13 : R_Txp_peek a z10 v12 := e13
    have lv12 := Int32.le_toInt v12
    have uv12 := Int32.toInt_lt v12
    exact px_iret (v := v12) S hr rfl hlk hAe hw (Nat.le_of_ble_eq_true rfl) (Nat.le_of_ble_eq_true rfl) (⟨rfl, (show R_Txp_rowStart f a p0 p1 v12 from (Or.inl ⟨z1, ez1, Or.inr ⟨nc2, z10, ez10, v12, e13, rfl⟩⟩))⟩) d_Txp_rowStart_17
abbrev b_Txp_rowLength : ByteArray := prog_11_method_16_code
def y_Txp_rowLength : MethodName := ⟨"HomeSystem$TextProcess", "rowLength", "(III)I"⟩
theorem d_Txp_rowLength_0 : decode b_Txp_rowLength 0 = .ok (.iload_n 1, 1) := by decide +kernel
theorem d_Txp_rowLength_1 : decode b_Txp_rowLength 1 = .ok (.bipush 8, 2) := by decide +kernel
theorem d_Txp_rowLength_3 : decode b_Txp_rowLength 3 = .ok (.iand, 1) := by decide +kernel
theorem d_Txp_rowLength_4 : decode b_Txp_rowLength 4 = .ok (.ifCond .eq 18, 3) := by decide +kernel
theorem d_Txp_rowLength_7 : decode b_Txp_rowLength 7 = .ok (.aload_n 0, 1) := by decide +kernel
theorem d_Txp_rowLength_8 : decode b_Txp_rowLength 8 = .ok (.aload_n 0, 1) := by decide +kernel
theorem d_Txp_rowLength_9 : decode b_Txp_rowLength 9 = .ok (.getfield 50, 3) := by decide +kernel
theorem d_Txp_rowLength_12 : decode b_Txp_rowLength 12 = .ok (.iload_n 2, 1) := by decide +kernel
theorem d_Txp_rowLength_13 : decode b_Txp_rowLength 13 = .ok (.iadd, 1) := by decide +kernel
theorem d_Txp_rowLength_14 : decode b_Txp_rowLength 14 = .ok (.iconst 1, 1) := by decide +kernel
theorem d_Txp_rowLength_15 : decode b_Txp_rowLength 15 = .ok (.iadd, 1) := by decide +kernel
theorem d_Txp_rowLength_16 : decode b_Txp_rowLength 16 = .ok (.invokevirtual 94, 3) := by decide +kernel
theorem d_Txp_rowLength_19 : decode b_Txp_rowLength 19 = .ok (.goto 4, 3) := by decide +kernel
theorem d_Txp_rowLength_22 : decode b_Txp_rowLength 22 = .ok (.iload_n 3, 1) := by decide +kernel
theorem d_Txp_rowLength_23 : decode b_Txp_rowLength 23 = .ok (.ireturn, 1) := by decide +kernel
theorem q_Txp_rowLength : px_y y_Txp_rowLength 3 := by unfold px_y; decide +kernel
set_option maxHeartbeats 4000000 in
set_option maxRecDepth 100000 in
theorem c_Txp_rowLength (l : Launch) (D : va_G) (cs : Nat → ClassId) (h : Nat) (r : Nat → Nat) (g : Nat → Nat → Option Nat) (hp : Nat) (f : Nat → Int32) (a : Nat → Nat → Int32) (p0 p1 p2 : Int32)  (hinv0 : TxOk (f 4) (f 5) (f 8) (f 9) (f 17) (f 21) (a 2)) : MetI l y_Txp_rowLength b_Txp_rowLength 4 (.int) D cs 1 30 (0) (0) [.ref h, .int p0, .int p1, .int p2] [wd_Txp cs h r (fun k => if k = 3 then (some hp) else none) f a g] (fun _ => True) (fun v ps => (ps = [wd_Txp cs h r (fun k => if k = 3 then (some hp) else none) f a g]) ∧ (R_Txp_rowLength f a p0 p1 p2 v)) := by
  refine px_enter (by decide) (Nat.le_of_ble_eq_true rfl) ?_
  intro p e s m below meth c A ls hAe S hr hlk hnm hA hT hX hw hl
  have hl : lv_has ls 4 [(0, .ref h), (1, .int p0), (2, .int p1), (3, .int p2)] := hl
  have lp0 := Int32.le_toInt p0
  have up0 := Int32.toInt_lt p0
  have lp1 := Int32.le_toInt p1
  have up1 := Int32.toInt_lt p1
  have lp2 := Int32.le_toInt p2
  have up2 := Int32.toInt_lt p2
  have cst1 : (1 : Int32).toInt = 1 := rfl
  have cst8 : (8 : Int32).toInt = 8 := rfl
  obtain ⟨lk, ⟨i2, i3⟩, ⟨i4, i5⟩, ⟨i6, i7⟩, i8, ⟨i9, i11⟩, i10, hrt⟩ := hinv0
  refine lv_iload_n S.x S.b d_Txp_rowLength_0 rfl (lv_at hl 1 rfl) ?_
  refine lv_bipush (v := 8) S.x S.b d_Txp_rowLength_1 (by decide) ?_
  refine lv_iand S.x S.b d_Txp_rowLength_3 ?_
  refine lv_topi (fun z1 ez1 => ?_)
  have lz1 := Int32.le_toInt z1
  have uz1 := Int32.toInt_lt z1
  refine lv_if_eq (tgt := 22) S.x S.b d_Txp_rowLength_4 (by decide) (fun c2 => ?_) (fun c2 => ?_)
  · have nc2 : z1.toInt = (0 : Int) := (i_eq (x := z1) (y := 0)).mp c2
    refine lv_iload_n S.x S.b d_Txp_rowLength_22 rfl (lv_at hl 3 rfl) ?_
    exact px_iret (v := p2) S hr rfl hlk hAe hw (Nat.le_of_ble_eq_true rfl) (Nat.le_of_ble_eq_true rfl) (⟨rfl, (show R_Txp_rowLength f a p0 p1 p2 p2 from (Or.inl ⟨z1, ez1, Or.inl ⟨nc2, rfl⟩⟩))⟩) d_Txp_rowLength_23
  · have nc2 : ¬ z1.toInt = (0 : Int) := mt (i_eq (x := z1) (y := 0)).mpr c2
    refine lv_aload_n S.x S.b d_Txp_rowLength_7 rfl (lv_at hl 0 rfl) ?_
    refine lv_aload_n S.x S.b d_Txp_rowLength_8 rfl (lv_at hl 0 rfl) ?_
    refine px_get S k_Txp hT hw 0 0 6 (v := .int (f 6)) rfl rfl rfl (by decide) m6_219 d_Txp_rowLength_9 ?_
    refine lv_iload_n S.x S.b d_Txp_rowLength_12 rfl (lv_at hl 2 rfl) ?_
    refine lv_iadd S.x S.b d_Txp_rowLength_13 ?_
    have lr4 := Int32.le_toInt (f 6)
    have ur4 := Int32.toInt_lt (f 6)
    refine lv_topi (fun z5 ez5 => ?_)
    have tz5 : z5.toInt = ((f 6).toInt + p1.toInt + 2147483648) % 4294967296 - 2147483648 := by rw [ez5]; exact i_add (f 6) p1
    have lz5 := Int32.le_toInt z5
    have uz5 := Int32.toInt_lt z5
    try replace tz5 : z5.toInt = (f 6).toInt + p1.toInt := by omega
    refine lv_iconst (v := 1) S.x S.b d_Txp_rowLength_14 (by decide) ?_
    refine lv_iadd S.x S.b d_Txp_rowLength_15 ?_
    refine lv_topi (fun z6 ez6 => ?_)
    have tz6 : z6.toInt = (z5.toInt + (1 : Int) + 2147483648) % 4294967296 - 2147483648 := by rw [ez6]; exact i_add z5 1
    have lz6 := Int32.le_toInt z6
    have uz6 := Int32.toInt_lt z6
    try replace tz6 : z6.toInt = z5.toInt + (1 : Int) := by omega
    first | refine px_calli (pr := []) (px_runV (As := [.int z6]) (rest := []) S (c_Txp_peek l D cs h r g hp f a z6  (show TxOk (f 4) (f 5) (f 8) (f 9) (f 17) (f 21) (a 2) from ⟨lk, ⟨i2, i3⟩, ⟨i4, i5⟩, ⟨i6, i7⟩, i8, ⟨i9, i11⟩, i10, hrt⟩) _) hT (pr := []) (pcs := [wd_Txp cs h r (fun k => if k = 3 then (some hp) else none) f a g]) hw px_X.tt (px_recv hT hw 0 0 rfl rfl rfl) m8_146 m8_143 m8_145 ms_5_15 m1_35 q_Txp_peek ⟨Nat.le_of_ble_eq_true rfl, Nat.le_of_ble_eq_true rfl⟩ hl.1 rfl (Nat.le_of_ble_eq_true rfl) d_Txp_rowLength_16 ⟨Nat.le_of_ble_eq_true rfl, Nat.le_of_ble_eq_true rfl⟩) hw hA (fun v8 p7 H locs hp7 hw => ?_) | refine px_calli (pr := []) (px_runV (As := [.int z6]) (rest := []) S (c_Txp_peek l D cs h r g hp f a z6  (show TxOk (f 4) (f 5) (f 8) (f 9) (f 17) (f 21) (a 2) from ⟨lk, ⟨by first | exact i2 | omega, by first | exact i3 | omega⟩, ⟨by first | exact i4 | omega, by first | exact i5 | omega⟩, ⟨by first | exact i6 | omega, by first | exact i7 | omega⟩, by first | exact i8 | omega, ⟨by first | exact i9 | omega, by first | exact i11 | omega⟩, by first | exact i10 | omega, hrt⟩) _) hT (pr := []) (pcs := [wd_Txp cs h r (fun k => if k = 3 then (some hp) else none) f a g]) hw px_X.tt (px_recv hT hw 0 0 rfl rfl rfl) m8_146 m8_143 m8_145 ms_5_15 m1_35 q_Txp_peek ⟨Nat.le_of_ble_eq_true rfl, Nat.le_of_ble_eq_true rfl⟩ hl.1 rfl (Nat.le_of_ble_eq_true rfl) d_Txp_rowLength_16 ⟨Nat.le_of_ble_eq_true rfl, Nat.le_of_ble_eq_true rfl⟩) hw hA (fun v8 p7 H locs hp7 hw => ?_)
    obtain ⟨rfl, e9⟩ := hp7
    have e9 : R_Txp_peek a z6 v8 := e9
    have lv8 := Int32.le_toInt v8
    have uv8 := Int32.toInt_lt v8
    refine lv_goto (tgt := 23) S.x S.b d_Txp_rowLength_19 (by decide) ?_
    exact px_iret (v := v8) S hr rfl hlk hAe hw (Nat.le_of_ble_eq_true rfl) (Nat.le_of_ble_eq_true rfl) (⟨rfl, (show R_Txp_rowLength f a p0 p1 p2 v8 from (Or.inl ⟨z1, ez1, Or.inr ⟨nc2, z5, ez5, z6, ez6, v8, e9, rfl⟩⟩))⟩) d_Txp_rowLength_23
abbrev b_Txp_lookUp : ByteArray := prog_11_method_17_code
def y_Txp_lookUp : MethodName := ⟨"HomeSystem$TextProcess", "lookUp", "(III)V"⟩
theorem d_Txp_lookUp_0 : decode b_Txp_lookUp 0 = .ok (.aload_n 0, 1) := by decide +kernel
theorem d_Txp_lookUp_1 : decode b_Txp_lookUp 1 = .ok (.iconst (-1), 1) := by decide +kernel
theorem d_Txp_lookUp_2 : decode b_Txp_lookUp 2 = .ok (.putfield 149, 3) := by decide +kernel
theorem d_Txp_lookUp_5 : decode b_Txp_lookUp 5 = .ok (.iload_n 1, 1) := by decide +kernel
theorem d_Txp_lookUp_6 : decode b_Txp_lookUp 6 = .ok (.bipush 6, 2) := by decide +kernel
theorem d_Txp_lookUp_8 : decode b_Txp_lookUp 8 = .ok (.iand, 1) := by decide +kernel
theorem d_Txp_lookUp_9 : decode b_Txp_lookUp 9 = .ok (.bipush 6, 2) := by decide +kernel
theorem d_Txp_lookUp_11 : decode b_Txp_lookUp 11 = .ok (.if_icmp .ne 25, 3) := by decide +kernel
theorem d_Txp_lookUp_14 : decode b_Txp_lookUp 14 = .ok (.aload_n 0, 1) := by decide +kernel
theorem d_Txp_lookUp_15 : decode b_Txp_lookUp 15 = .ok (.iload_n 2, 1) := by decide +kernel
theorem d_Txp_lookUp_16 : decode b_Txp_lookUp 16 = .ok (.iload_n 3, 1) := by decide +kernel
theorem d_Txp_lookUp_17 : decode b_Txp_lookUp 17 = .ok (.iconst 2, 1) := by decide +kernel
theorem d_Txp_lookUp_18 : decode b_Txp_lookUp 18 = .ok (.ishr, 1) := by decide +kernel
theorem d_Txp_lookUp_19 : decode b_Txp_lookUp 19 = .ok (.iadd, 1) := by decide +kernel
theorem d_Txp_lookUp_20 : decode b_Txp_lookUp 20 = .ok (.putfield 152, 3) := by decide +kernel
theorem d_Txp_lookUp_23 : decode b_Txp_lookUp 23 = .ok (.aload_n 0, 1) := by decide +kernel
theorem d_Txp_lookUp_24 : decode b_Txp_lookUp 24 = .ok (.bipush 8, 2) := by decide +kernel
theorem d_Txp_lookUp_26 : decode b_Txp_lookUp 26 = .ok (.iload_n 3, 1) := by decide +kernel
theorem d_Txp_lookUp_27 : decode b_Txp_lookUp 27 = .ok (.iconst 3, 1) := by decide +kernel
theorem d_Txp_lookUp_28 : decode b_Txp_lookUp 28 = .ok (.iand, 1) := by decide +kernel
theorem d_Txp_lookUp_29 : decode b_Txp_lookUp 29 = .ok (.imul, 1) := by decide +kernel
theorem d_Txp_lookUp_30 : decode b_Txp_lookUp 30 = .ok (.putfield 149, 3) := by decide +kernel
theorem d_Txp_lookUp_33 : decode b_Txp_lookUp 33 = .ok (.goto 10, 3) := by decide +kernel
theorem d_Txp_lookUp_36 : decode b_Txp_lookUp 36 = .ok (.aload_n 0, 1) := by decide +kernel
theorem d_Txp_lookUp_37 : decode b_Txp_lookUp 37 = .ok (.iload_n 2, 1) := by decide +kernel
theorem d_Txp_lookUp_38 : decode b_Txp_lookUp 38 = .ok (.iload_n 3, 1) := by decide +kernel
theorem d_Txp_lookUp_39 : decode b_Txp_lookUp 39 = .ok (.iadd, 1) := by decide +kernel
theorem d_Txp_lookUp_40 : decode b_Txp_lookUp 40 = .ok (.putfield 152, 3) := by decide +kernel
theorem d_Txp_lookUp_43 : decode b_Txp_lookUp 43 = .ok (.return_, 1) := by decide +kernel
theorem q_Txp_lookUp : px_y y_Txp_lookUp 3 := by unfold px_y; decide +kernel
set_option maxHeartbeats 4000000 in
set_option maxRecDepth 100000 in
theorem c_Txp_lookUp (l : Launch) (D : va_G) (cs : Nat → ClassId) (h : Nat) (r : Nat → Nat) (g : Nat → Nat → Option Nat) (hp : Nat) (f : Nat → Int32) (a : Nat → Nat → Int32) (p0 p1 p2 : Int32)  (hinv0 : TxOk (f 4) (f 5) (f 8) (f 9) (f 17) (f 21) (a 2)) : MetV l y_Txp_lookUp b_Txp_lookUp 4 D cs 0 0 (0) (0) [.ref h, .int p0, .int p1, .int p2] [wd_Txp cs h r (fun k => if k = 3 then (some hp) else none) f a g] (fun _ => True) (fun ps => ∃ (f' : Nat → Int32) (a' : Nat → Nat → Int32), (ps = [wd_Txp cs h r (fun k => if k = 3 then (some hp) else none) f' a' g]) ∧ (TxOk (f' 4) (f' 5) (f' 8) (f' 9) (f' 17) (f' 21) (a' 2)) ∧ ((f' 9).toInt = (f 9).toInt) ∧ ((f' 17).toInt = (f 17).toInt) ∧ ((f' 21).toInt = (f 21).toInt) ∧ ((f' 15).toInt = (f 15).toInt) ∧ ((f' 20).toInt = (f 20).toInt) ∧ ((f' 4).toInt = (f 4).toInt) ∧ (R_Txp_lookUp p0 p1 p2 f a f' a')) := by
  refine px_enter (by decide) (Nat.le_of_ble_eq_true rfl) ?_
  intro p e s m below meth c A ls hAe S hr hlk hnm hA hT hX hw hl
  have hl : lv_has ls 4 [(0, .ref h), (1, .int p0), (2, .int p1), (3, .int p2)] := hl
  have lp0 := Int32.le_toInt p0
  have up0 := Int32.toInt_lt p0
  have lp1 := Int32.le_toInt p1
  have up1 := Int32.toInt_lt p1
  have lp2 := Int32.le_toInt p2
  have up2 := Int32.toInt_lt p2
  have cstm1 : ((-1) : Int32).toInt = (-1) := rfl
  have cst2 : (2 : Int32).toInt = 2 := rfl
  have cst3 : (3 : Int32).toInt = 3 := rfl
  have cst6 : (6 : Int32).toInt = 6 := rfl
  have cst8 : (8 : Int32).toInt = 8 := rfl
  obtain ⟨lk, ⟨i2, i3⟩, ⟨i4, i5⟩, ⟨i6, i7⟩, i8, ⟨i9, i11⟩, i10, hrt⟩ := hinv0
  refine lv_aload_n S.x S.b d_Txp_lookUp_0 rfl (lv_at hl 0 rfl) ?_
  refine lv_iconst (v := (-1)) S.x S.b d_Txp_lookUp_1 (by decide) ?_
  refine px_put S k_Txp hT hw 0 0 12 rfl rfl (by decide) m6_225 rfl rfl rfl (Nat.le_of_ble_eq_true rfl) d_Txp_lookUp_2 (w' := wd_Txp cs h r (fun k => if k = 3 then (some hp) else none) (upd f 12 (-1)) a g) (ps' := [wd_Txp cs h r (fun k => if k = 3 then (some hp) else none) (upd f 12 (-1)) a g]) rfl rfl (fun H locs hw => ?_)
  refine lv_iload_n S.x S.b d_Txp_lookUp_5 rfl (lv_at hl 1 rfl) ?_
  refine lv_bipush (v := 6) S.x S.b d_Txp_lookUp_6 (by decide) ?_
  refine lv_iand S.x S.b d_Txp_lookUp_8 ?_
  refine lv_topi (fun z1 ez1 => ?_)
  have lz1 := Int32.le_toInt z1
  have uz1 := Int32.toInt_lt z1
  refine lv_bipush (v := 6) S.x S.b d_Txp_lookUp_9 (by decide) ?_
  refine lv_icmp_ne (tgt := 36) S.x S.b d_Txp_lookUp_11 (by decide) (fun c2 => ?_) (fun c2 => ?_)
  · have nc2 : ¬ z1.toInt = (6 : Int) := mt (i_eq (x := z1) (y := 6)).mpr c2
    refine lv_aload_n S.x S.b d_Txp_lookUp_36 rfl (lv_at hl 0 rfl) ?_
    refine lv_iload_n S.x S.b d_Txp_lookUp_37 rfl (lv_at hl 2 rfl) ?_
    refine lv_iload_n S.x S.b d_Txp_lookUp_38 rfl (lv_at hl 3 rfl) ?_
    refine lv_iadd S.x S.b d_Txp_lookUp_39 ?_
    refine lv_topi (fun z4 ez4 => ?_)
    have tz4 : z4.toInt = (p1.toInt + p2.toInt + 2147483648) % 4294967296 - 2147483648 := by rw [ez4]; exact i_add p1 p2
    have lz4 := Int32.le_toInt z4
    have uz4 := Int32.toInt_lt z4
    try replace tz4 : z4.toInt = p1.toInt + p2.toInt := by omega
    refine px_put S k_Txp hT hw 0 0 11 rfl rfl (by decide) m6_224 rfl rfl rfl (Nat.le_of_ble_eq_true rfl) d_Txp_lookUp_40 (w' := wd_Txp cs h r (fun k => if k = 3 then (some hp) else none) (upd (upd f 11 z4) 12 (-1)) a g) (ps' := [wd_Txp cs h r (fun k => if k = 3 then (some hp) else none) (upd (upd f 11 z4) 12 (-1)) a g]) rfl rfl (fun H locs hw => ?_)
    first | exact px_vret S hr hlk hAe hw (Nat.le_of_ble_eq_true rfl) (Nat.le_of_ble_eq_true rfl) (⟨(upd (upd f 11 z4) 12 (-1)), a, rfl, (show TxOk (f 4) (f 5) (f 8) (f 9) (f 17) (f 21) (a 2) from ⟨lk, ⟨i2, i3⟩, ⟨i4, i5⟩, ⟨i6, i7⟩, i8, ⟨i9, i11⟩, i10, hrt⟩), (show (f 9).toInt = (f 9).toInt from rfl), (show (f 17).toInt = (f 17).toInt from rfl), (show (f 21).toInt = (f 21).toInt from rfl), (show (f 15).toInt = (f 15).toInt from rfl), (show (f 20).toInt = (f 20).toInt from rfl), (show (f 4).toInt = (f 4).toInt from rfl), (show R_Txp_lookUp p0 p1 p2 f a (upd (upd f 11 z4) 12 (-1)) a from (Or.inl ⟨z1, ez1, Or.inl ⟨nc2, z4, ez4, rfl, rfl⟩⟩))⟩) d_Txp_lookUp_43 | exact px_vret S hr hlk hAe hw (Nat.le_of_ble_eq_true rfl) (Nat.le_of_ble_eq_true rfl) (⟨(upd (upd f 11 z4) 12 (-1)), a, rfl, (show TxOk (f 4) (f 5) (f 8) (f 9) (f 17) (f 21) (a 2) from ⟨lk, ⟨by first | exact i2 | omega, by first | exact i3 | omega⟩, ⟨by first | exact i4 | omega, by first | exact i5 | omega⟩, ⟨by first | exact i6 | omega, by first | exact i7 | omega⟩, by first | exact i8 | omega, ⟨by first | exact i9 | omega, by first | exact i11 | omega⟩, by first | exact i10 | omega, hrt⟩), (show (f 9).toInt = (f 9).toInt from rfl), (show (f 17).toInt = (f 17).toInt from rfl), (show (f 21).toInt = (f 21).toInt from rfl), (show (f 15).toInt = (f 15).toInt from rfl), (show (f 20).toInt = (f 20).toInt from rfl), (show (f 4).toInt = (f 4).toInt from rfl), (show R_Txp_lookUp p0 p1 p2 f a (upd (upd f 11 z4) 12 (-1)) a from (Or.inl ⟨z1, ez1, Or.inl ⟨nc2, z4, ez4, rfl, rfl⟩⟩))⟩) d_Txp_lookUp_43
  · have nc2 : z1.toInt = (6 : Int) := (i_eq (x := z1) (y := 6)).mp c2
    refine lv_aload_n S.x S.b d_Txp_lookUp_14 rfl (lv_at hl 0 rfl) ?_
    refine lv_iload_n S.x S.b d_Txp_lookUp_15 rfl (lv_at hl 2 rfl) ?_
    refine lv_iload_n S.x S.b d_Txp_lookUp_16 rfl (lv_at hl 3 rfl) ?_
    refine lv_iconst (v := 2) S.x S.b d_Txp_lookUp_17 (by decide) ?_
    refine lv_ishr S.x S.b d_Txp_lookUp_18 ?_
    refine lv_topi (fun z5 ez5 => ?_)
    have tz5 : z5.toInt = p2.toInt / 4 := by rw [ez5]; exact i_shr p2 2 (k := 2) (d := 4) (by decide) (by decide)
    have lz5 := Int32.le_toInt z5
    have uz5 := Int32.toInt_lt z5
    refine lv_iadd S.x S.b d_Txp_lookUp_19 ?_
    refine lv_topi (fun z6 ez6 => ?_)
    have tz6 : z6.toInt = (p1.toInt + z5.toInt + 2147483648) % 4294967296 - 2147483648 := by rw [ez6]; exact i_add p1 z5
    have lz6 := Int32.le_toInt z6
    have uz6 := Int32.toInt_lt z6
    try replace tz6 : z6.toInt = p1.toInt + z5.toInt := by omega
    refine px_put S k_Txp hT hw 0 0 11 rfl rfl (by decide) m6_224 rfl rfl rfl (Nat.le_of_ble_eq_true rfl) d_Txp_lookUp_20 (w' := wd_Txp cs h r (fun k => if k = 3 then (some hp) else none) (upd (upd f 11 z6) 12 (-1)) a g) (ps' := [wd_Txp cs h r (fun k => if k = 3 then (some hp) else none) (upd (upd f 11 z6) 12 (-1)) a g]) rfl rfl (fun H locs hw => ?_)
    refine lv_aload_n S.x S.b d_Txp_lookUp_23 rfl (lv_at hl 0 rfl) ?_
    refine lv_bipush (v := 8) S.x S.b d_Txp_lookUp_24 (by decide) ?_
    refine lv_iload_n S.x S.b d_Txp_lookUp_26 rfl (lv_at hl 3 rfl) ?_
    refine lv_iconst (v := 3) S.x S.b d_Txp_lookUp_27 (by decide) ?_
    refine lv_iand S.x S.b d_Txp_lookUp_28 ?_
    refine lv_topi (fun z7 ez7 => ?_)
    have lz7 := Int32.le_toInt z7
    have uz7 := Int32.toInt_lt z7
    have bz7 := i_andm p2 (m := 3) 2 (by decide) (by decide)
    rw [← ez7] at bz7
    have wz7 : 0 ≤ z7.toInt ∧ z7.toInt ≤ 3 := by simp only [Nat.reducePow, Int.reducePow] at bz7; omega
    refine lv_imul S.x S.b d_Txp_lookUp_29 ?_
    refine lv_topi (fun z8 ez8 => ?_)
    have lz8 := Int32.le_toInt z8
    have uz8 := Int32.toInt_lt z8
    have tz8 : -2147483648 ≤ 8 * z7.toInt → 8 * z7.toInt < 2147483648 → z8.toInt = 8 * z7.toInt := by rw [ez8]; exact i_mulc 8 z7 (by decide)
    try replace tz8 : z8.toInt = 8 * z7.toInt := by omega
    refine px_put S k_Txp hT hw 0 0 12 rfl rfl (by decide) m6_225 rfl rfl rfl (Nat.le_of_ble_eq_true rfl) d_Txp_lookUp_30 (w' := wd_Txp cs h r (fun k => if k = 3 then (some hp) else none) (upd (upd f 11 z6) 12 z8) a g) (ps' := [wd_Txp cs h r (fun k => if k = 3 then (some hp) else none) (upd (upd f 11 z6) 12 z8) a g]) rfl rfl (fun H locs hw => ?_)
    refine lv_goto (tgt := 43) S.x S.b d_Txp_lookUp_33 (by decide) ?_
    first | exact px_vret S hr hlk hAe hw (Nat.le_of_ble_eq_true rfl) (Nat.le_of_ble_eq_true rfl) (⟨(upd (upd f 11 z6) 12 z8), a, rfl, (show TxOk (f 4) (f 5) (f 8) (f 9) (f 17) (f 21) (a 2) from ⟨lk, ⟨i2, i3⟩, ⟨i4, i5⟩, ⟨i6, i7⟩, i8, ⟨i9, i11⟩, i10, hrt⟩), (show (f 9).toInt = (f 9).toInt from rfl), (show (f 17).toInt = (f 17).toInt from rfl), (show (f 21).toInt = (f 21).toInt from rfl), (show (f 15).toInt = (f 15).toInt from rfl), (show (f 20).toInt = (f 20).toInt from rfl), (show (f 4).toInt = (f 4).toInt from rfl), (show R_Txp_lookUp p0 p1 p2 f a (upd (upd f 11 z6) 12 z8) a from (Or.inl ⟨z1, ez1, Or.inr ⟨nc2, z5, ez5, z6, ez6, z7, ez7, z8, ez8, rfl, rfl⟩⟩))⟩) d_Txp_lookUp_43 | exact px_vret S hr hlk hAe hw (Nat.le_of_ble_eq_true rfl) (Nat.le_of_ble_eq_true rfl) (⟨(upd (upd f 11 z6) 12 z8), a, rfl, (show TxOk (f 4) (f 5) (f 8) (f 9) (f 17) (f 21) (a 2) from ⟨lk, ⟨by first | exact i2 | omega, by first | exact i3 | omega⟩, ⟨by first | exact i4 | omega, by first | exact i5 | omega⟩, ⟨by first | exact i6 | omega, by first | exact i7 | omega⟩, by first | exact i8 | omega, ⟨by first | exact i9 | omega, by first | exact i11 | omega⟩, by first | exact i10 | omega, hrt⟩), (show (f 9).toInt = (f 9).toInt from rfl), (show (f 17).toInt = (f 17).toInt from rfl), (show (f 21).toInt = (f 21).toInt from rfl), (show (f 15).toInt = (f 15).toInt from rfl), (show (f 20).toInt = (f 20).toInt from rfl), (show (f 4).toInt = (f 4).toInt from rfl), (show R_Txp_lookUp p0 p1 p2 f a (upd (upd f 11 z6) 12 z8) a from (Or.inl ⟨z1, ez1, Or.inr ⟨nc2, z5, ez5, z6, ez6, z7, ez7, z8, ez8, rfl, rfl⟩⟩))⟩) d_Txp_lookUp_43
abbrev b_Txp_look : ByteArray := prog_11_method_18_code
def y_Txp_look : MethodName := ⟨"HomeSystem$TextProcess", "look", "()I"⟩
theorem d_Txp_look_0 : decode b_Txp_look 0 = .ok (.aload_n 0, 1) := by decide +kernel
theorem d_Txp_look_1 : decode b_Txp_look 1 = .ok (.getfield 149, 3) := by decide +kernel
theorem d_Txp_look_4 : decode b_Txp_look 4 = .ok (.iconst (-1), 1) := by decide +kernel
theorem d_Txp_look_5 : decode b_Txp_look 5 = .ok (.if_icmp .ne 14, 3) := by decide +kernel
theorem d_Txp_look_8 : decode b_Txp_look 8 = .ok (.aload_n 0, 1) := by decide +kernel
theorem d_Txp_look_9 : decode b_Txp_look 9 = .ok (.aload_n 0, 1) := by decide +kernel
theorem d_Txp_look_10 : decode b_Txp_look 10 = .ok (.getfield 152, 3) := by decide +kernel
theorem d_Txp_look_13 : decode b_Txp_look 13 = .ok (.invokevirtual 94, 3) := by decide +kernel
theorem d_Txp_look_16 : decode b_Txp_look 16 = .ok (.goto 20, 3) := by decide +kernel
theorem d_Txp_look_19 : decode b_Txp_look 19 = .ok (.aload_n 0, 1) := by decide +kernel
theorem d_Txp_look_20 : decode b_Txp_look 20 = .ok (.aload_n 0, 1) := by decide +kernel
theorem d_Txp_look_21 : decode b_Txp_look 21 = .ok (.getfield 152, 3) := by decide +kernel
theorem d_Txp_look_24 : decode b_Txp_look 24 = .ok (.invokevirtual 94, 3) := by decide +kernel
theorem d_Txp_look_27 : decode b_Txp_look 27 = .ok (.aload_n 0, 1) := by decide +kernel
theorem d_Txp_look_28 : decode b_Txp_look 28 = .ok (.getfield 149, 3) := by decide +kernel
theorem d_Txp_look_31 : decode b_Txp_look 31 = .ok (.iushr, 1) := by decide +kernel
theorem d_Txp_look_32 : decode b_Txp_look 32 = .ok (.sipush 255, 3) := by decide +kernel
theorem d_Txp_look_35 : decode b_Txp_look 35 = .ok (.iand, 1) := by decide +kernel
theorem d_Txp_look_36 : decode b_Txp_look 36 = .ok (.ireturn, 1) := by decide +kernel
theorem q_Txp_look : px_y y_Txp_look 0 := by unfold px_y; decide +kernel
set_option maxHeartbeats 4000000 in
set_option maxRecDepth 100000 in
theorem c_Txp_look (l : Launch) (D : va_G) (cs : Nat → ClassId) (h : Nat) (r : Nat → Nat) (g : Nat → Nat → Option Nat) (hp : Nat) (f : Nat → Int32) (a : Nat → Nat → Int32)  (hinv0 : TxOk (f 4) (f 5) (f 8) (f 9) (f 17) (f 21) (a 2)) : MetI l y_Txp_look b_Txp_look 1 (.int) D cs 1 30 (0) (0) [.ref h] [wd_Txp cs h r (fun k => if k = 3 then (some hp) else none) f a g] (fun _ => True) (fun v ps => (ps = [wd_Txp cs h r (fun k => if k = 3 then (some hp) else none) f a g]) ∧ (R_Txp_look f a v)) := by
  refine px_enter (by decide) (Nat.le_of_ble_eq_true rfl) ?_
  intro p e s m below meth c A ls hAe S hr hlk hnm hA hT hX hw hl
  have hl : lv_has ls 1 [(0, .ref h)] := hl
  have cstm1 : ((-1) : Int32).toInt = (-1) := rfl
  have cst255 : (255 : Int32).toInt = 255 := rfl
  obtain ⟨lk, ⟨i2, i3⟩, ⟨i4, i5⟩, ⟨i6, i7⟩, i8, ⟨i9, i11⟩, i10, hrt⟩ := hinv0
  refine lv_aload_n S.x S.b d_Txp_look_0 rfl (lv_at hl 0 rfl) ?_
  refine px_get S k_Txp hT hw 0 0 12 (v := .int (f 12)) rfl rfl rfl (by decide) m6_225 d_Txp_look_1 ?_
  refine lv_iconst (v := (-1)) S.x S.b d_Txp_look_4 (by decide) ?_
  refine lv_icmp_ne (tgt := 19) S.x S.b d_Txp_look_5 (by decide) (fun c1 => ?_) (fun c1 => ?_)
  · have nc1 : ¬ (f 12).toInt = (-1 : Int) := mt (i_eq (x := (f 12)) (y := (-1))).mpr c1
    refine lv_aload_n S.x S.b d_Txp_look_19 rfl (lv_at hl 0 rfl) ?_
    refine lv_aload_n S.x S.b d_Txp_look_20 rfl (lv_at hl 0 rfl) ?_
    refine px_get S k_Txp hT hw 0 0 11 (v := .int (f 11)) rfl rfl rfl (by decide) m6_224 d_Txp_look_21 ?_
    first | refine px_calli (pr := []) (px_runV (As := [.int (f 11)]) (rest := []) S (c_Txp_peek l D cs h r g hp f a (f 11)  (show TxOk (f 4) (f 5) (f 8) (f 9) (f 17) (f 21) (a 2) from ⟨lk, ⟨i2, i3⟩, ⟨i4, i5⟩, ⟨i6, i7⟩, i8, ⟨i9, i11⟩, i10, hrt⟩) _) hT (pr := []) (pcs := [wd_Txp cs h r (fun k => if k = 3 then (some hp) else none) f a g]) hw px_X.tt (px_recv hT hw 0 0 rfl rfl rfl) m8_146 m8_143 m8_145 ms_5_15 m1_35 q_Txp_peek ⟨Nat.le_of_ble_eq_true rfl, Nat.le_of_ble_eq_true rfl⟩ hl.1 rfl (Nat.le_of_ble_eq_true rfl) d_Txp_look_24 ⟨Nat.le_of_ble_eq_true rfl, Nat.le_of_ble_eq_true rfl⟩) hw hA (fun v4 p3 H locs hp3 hw => ?_) | refine px_calli (pr := []) (px_runV (As := [.int (f 11)]) (rest := []) S (c_Txp_peek l D cs h r g hp f a (f 11)  (show TxOk (f 4) (f 5) (f 8) (f 9) (f 17) (f 21) (a 2) from ⟨lk, ⟨by first | exact i2 | omega, by first | exact i3 | omega⟩, ⟨by first | exact i4 | omega, by first | exact i5 | omega⟩, ⟨by first | exact i6 | omega, by first | exact i7 | omega⟩, by first | exact i8 | omega, ⟨by first | exact i9 | omega, by first | exact i11 | omega⟩, by first | exact i10 | omega, hrt⟩) _) hT (pr := []) (pcs := [wd_Txp cs h r (fun k => if k = 3 then (some hp) else none) f a g]) hw px_X.tt (px_recv hT hw 0 0 rfl rfl rfl) m8_146 m8_143 m8_145 ms_5_15 m1_35 q_Txp_peek ⟨Nat.le_of_ble_eq_true rfl, Nat.le_of_ble_eq_true rfl⟩ hl.1 rfl (Nat.le_of_ble_eq_true rfl) d_Txp_look_24 ⟨Nat.le_of_ble_eq_true rfl, Nat.le_of_ble_eq_true rfl⟩) hw hA (fun v4 p3 H locs hp3 hw => ?_)
    obtain ⟨rfl, e5⟩ := hp3
    have e5 : R_Txp_peek a (f 11) v4 := e5
    have lv4 := Int32.le_toInt v4
    have uv4 := Int32.toInt_lt v4
    refine lv_aload_n S.x S.b d_Txp_look_27 rfl (lv_at hl 0 rfl) ?_
    refine px_get S k_Txp hT hw 0 0 12 (v := .int (f 12)) rfl rfl rfl (by decide) m6_225 d_Txp_look_28 ?_
    refine lv_iushr S.x S.b d_Txp_look_31 rfl ?_
    have lr6 := Int32.le_toInt (f 12)
    have ur6 := Int32.toInt_lt (f 12)
    refine lv_topi (fun z7 ez7 => ?_)
    have lz7 := Int32.le_toInt z7
    have uz7 := Int32.toInt_lt z7
    refine lv_sipush (v := 255) S.x S.b d_Txp_look_32 (by decide) ?_
    refine lv_iand S.x S.b d_Txp_look_35 ?_
    refine lv_topi (fun z8 ez8 => ?_)
    have lz8 := Int32.le_toInt z8
    have uz8 := Int32.toInt_lt z8
    have bz8 := i_andm z7 (m := 255) 8 (by decide) (by decide)
    rw [← ez8] at bz8
    have wz8 : 0 ≤ z8.toInt ∧ z8.toInt ≤ 255 := by simp only [Nat.reducePow, Int.reducePow] at bz8; omega
    exact px_iret (v := z8) S hr rfl hlk hAe hw (Nat.le_of_ble_eq_true rfl) (Nat.le_of_ble_eq_true rfl) (⟨rfl, (show R_Txp_look f a z8 from (Or.inl (Or.inl ⟨nc1, v4, e5, z7, ez7, z8, ez8, rfl⟩)))⟩) d_Txp_look_36
  · have nc1 : (f 12).toInt = (-1 : Int) := (i_eq (x := (f 12)) (y := (-1))).mp c1
    refine lv_aload_n S.x S.b d_Txp_look_8 rfl (lv_at hl 0 rfl) ?_
    refine lv_aload_n S.x S.b d_Txp_look_9 rfl (lv_at hl 0 rfl) ?_
    refine px_get S k_Txp hT hw 0 0 11 (v := .int (f 11)) rfl rfl rfl (by decide) m6_224 d_Txp_look_10 ?_
    first | refine px_calli (pr := []) (px_runV (As := [.int (f 11)]) (rest := []) S (c_Txp_peek l D cs h r g hp f a (f 11)  (show TxOk (f 4) (f 5) (f 8) (f 9) (f 17) (f 21) (a 2) from ⟨lk, ⟨i2, i3⟩, ⟨i4, i5⟩, ⟨i6, i7⟩, i8, ⟨i9, i11⟩, i10, hrt⟩) _) hT (pr := []) (pcs := [wd_Txp cs h r (fun k => if k = 3 then (some hp) else none) f a g]) hw px_X.tt (px_recv hT hw 0 0 rfl rfl rfl) m8_146 m8_143 m8_145 ms_5_15 m1_35 q_Txp_peek ⟨Nat.le_of_ble_eq_true rfl, Nat.le_of_ble_eq_true rfl⟩ hl.1 rfl (Nat.le_of_ble_eq_true rfl) d_Txp_look_13 ⟨Nat.le_of_ble_eq_true rfl, Nat.le_of_ble_eq_true rfl⟩) hw hA (fun v10 p9 H locs hp9 hw => ?_) | refine px_calli (pr := []) (px_runV (As := [.int (f 11)]) (rest := []) S (c_Txp_peek l D cs h r g hp f a (f 11)  (show TxOk (f 4) (f 5) (f 8) (f 9) (f 17) (f 21) (a 2) from ⟨lk, ⟨by first | exact i2 | omega, by first | exact i3 | omega⟩, ⟨by first | exact i4 | omega, by first | exact i5 | omega⟩, ⟨by first | exact i6 | omega, by first | exact i7 | omega⟩, by first | exact i8 | omega, ⟨by first | exact i9 | omega, by first | exact i11 | omega⟩, by first | exact i10 | omega, hrt⟩) _) hT (pr := []) (pcs := [wd_Txp cs h r (fun k => if k = 3 then (some hp) else none) f a g]) hw px_X.tt (px_recv hT hw 0 0 rfl rfl rfl) m8_146 m8_143 m8_145 ms_5_15 m1_35 q_Txp_peek ⟨Nat.le_of_ble_eq_true rfl, Nat.le_of_ble_eq_true rfl⟩ hl.1 rfl (Nat.le_of_ble_eq_true rfl) d_Txp_look_13 ⟨Nat.le_of_ble_eq_true rfl, Nat.le_of_ble_eq_true rfl⟩) hw hA (fun v10 p9 H locs hp9 hw => ?_)
    obtain ⟨rfl, e11⟩ := hp9
    have e11 : R_Txp_peek a (f 11) v10 := e11
    have lv10 := Int32.le_toInt v10
    have uv10 := Int32.toInt_lt v10
    refine lv_goto (tgt := 36) S.x S.b d_Txp_look_16 (by decide) ?_
    exact px_iret (v := v10) S hr rfl hlk hAe hw (Nat.le_of_ble_eq_true rfl) (Nat.le_of_ble_eq_true rfl) (⟨rfl, (show R_Txp_look f a v10 from (Or.inl (Or.inr ⟨nc1, v10, e11, rfl⟩)))⟩) d_Txp_look_36
abbrev b_Txp_keep : ByteArray := prog_11_method_19_code
def y_Txp_keep : MethodName := ⟨"HomeSystem$TextProcess", "keep", "(II)I"⟩
theorem d_Txp_keep_0 : decode b_Txp_keep 0 = .ok (.iload_n 1, 1) := by decide +kernel
theorem d_Txp_keep_1 : decode b_Txp_keep 1 = .ok (.iconst 2, 1) := by decide +kernel
theorem d_Txp_keep_2 : decode b_Txp_keep 2 = .ok (.iand, 1) := by decide +kernel
theorem d_Txp_keep_3 : decode b_Txp_keep 3 = .ok (.ifCond .eq 11, 3) := by decide +kernel
theorem d_Txp_keep_6 : decode b_Txp_keep 6 = .ok (.iload_n 2, 1) := by decide +kernel
theorem d_Txp_keep_7 : decode b_Txp_keep 7 = .ok (.sipush 255, 3) := by decide +kernel
theorem d_Txp_keep_10 : decode b_Txp_keep 10 = .ok (.iand, 1) := by decide +kernel
theorem d_Txp_keep_11 : decode b_Txp_keep 11 = .ok (.goto 4, 3) := by decide +kernel
theorem d_Txp_keep_14 : decode b_Txp_keep 14 = .ok (.iload_n 2, 1) := by decide +kernel
theorem d_Txp_keep_15 : decode b_Txp_keep 15 = .ok (.istore_n 3, 1) := by decide +kernel
theorem d_Txp_keep_16 : decode b_Txp_keep 16 = .ok (.aload_n 0, 1) := by decide +kernel
theorem d_Txp_keep_17 : decode b_Txp_keep 17 = .ok (.getfield 149, 3) := by decide +kernel
theorem d_Txp_keep_20 : decode b_Txp_keep 20 = .ok (.iconst (-1), 1) := by decide +kernel
theorem d_Txp_keep_21 : decode b_Txp_keep 21 = .ok (.if_icmp .ne 15, 3) := by decide +kernel
theorem d_Txp_keep_24 : decode b_Txp_keep 24 = .ok (.aload_n 0, 1) := by decide +kernel
theorem d_Txp_keep_25 : decode b_Txp_keep 25 = .ok (.aload_n 0, 1) := by decide +kernel
theorem d_Txp_keep_26 : decode b_Txp_keep 26 = .ok (.getfield 152, 3) := by decide +kernel
theorem d_Txp_keep_29 : decode b_Txp_keep 29 = .ok (.iload_n 3, 1) := by decide +kernel
theorem d_Txp_keep_30 : decode b_Txp_keep 30 = .ok (.invokevirtual 98, 3) := by decide +kernel
theorem d_Txp_keep_33 : decode b_Txp_keep 33 = .ok (.goto 37, 3) := by decide +kernel
theorem d_Txp_keep_36 : decode b_Txp_keep 36 = .ok (.aload_n 0, 1) := by decide +kernel
theorem d_Txp_keep_37 : decode b_Txp_keep 37 = .ok (.aload_n 0, 1) := by decide +kernel
theorem d_Txp_keep_38 : decode b_Txp_keep 38 = .ok (.getfield 152, 3) := by decide +kernel
theorem d_Txp_keep_41 : decode b_Txp_keep 41 = .ok (.aload_n 0, 1) := by decide +kernel
theorem d_Txp_keep_42 : decode b_Txp_keep 42 = .ok (.aload_n 0, 1) := by decide +kernel
theorem d_Txp_keep_43 : decode b_Txp_keep 43 = .ok (.getfield 152, 3) := by decide +kernel
theorem d_Txp_keep_46 : decode b_Txp_keep 46 = .ok (.invokevirtual 94, 3) := by decide +kernel
theorem d_Txp_keep_49 : decode b_Txp_keep 49 = .ok (.sipush 255, 3) := by decide +kernel
theorem d_Txp_keep_52 : decode b_Txp_keep 52 = .ok (.aload_n 0, 1) := by decide +kernel
theorem d_Txp_keep_53 : decode b_Txp_keep 53 = .ok (.getfield 149, 3) := by decide +kernel
theorem d_Txp_keep_56 : decode b_Txp_keep 56 = .ok (.ishl, 1) := by decide +kernel
theorem d_Txp_keep_57 : decode b_Txp_keep 57 = .ok (.iconst (-1), 1) := by decide +kernel
theorem d_Txp_keep_58 : decode b_Txp_keep 58 = .ok (.ixor, 1) := by decide +kernel
theorem d_Txp_keep_59 : decode b_Txp_keep 59 = .ok (.iand, 1) := by decide +kernel
theorem d_Txp_keep_60 : decode b_Txp_keep 60 = .ok (.iload_n 3, 1) := by decide +kernel
theorem d_Txp_keep_61 : decode b_Txp_keep 61 = .ok (.aload_n 0, 1) := by decide +kernel
theorem d_Txp_keep_62 : decode b_Txp_keep 62 = .ok (.getfield 149, 3) := by decide +kernel
theorem d_Txp_keep_65 : decode b_Txp_keep 65 = .ok (.ishl, 1) := by decide +kernel
theorem d_Txp_keep_66 : decode b_Txp_keep 66 = .ok (.ior, 1) := by decide +kernel
theorem d_Txp_keep_67 : decode b_Txp_keep 67 = .ok (.invokevirtual 98, 3) := by decide +kernel
theorem d_Txp_keep_70 : decode b_Txp_keep 70 = .ok (.iload_n 3, 1) := by decide +kernel
theorem d_Txp_keep_71 : decode b_Txp_keep 71 = .ok (.ireturn, 1) := by decide +kernel
theorem q_Txp_keep : px_y y_Txp_keep 2 := by unfold px_y; decide +kernel
set_option maxHeartbeats 4000000 in
set_option maxRecDepth 100000 in
theorem c_Txp_keep (l : Launch) (D : va_G) (cs : Nat → ClassId) (h : Nat) (r : Nat → Nat) (g : Nat → Nat → Option Nat) (hp : Nat) (f : Nat → Int32) (a : Nat → Nat → Int32) (p0 p1 : Int32)  (hinv0 : TxOk (f 4) (f 5) (f 8) (f 9) (f 17) (f 21) (a 2)) : MetI l y_Txp_keep b_Txp_keep 4 (.int) D cs 1 30 (0) (0) [.ref h, .int p0, .int p1] [wd_Txp cs h r (fun k => if k = 3 then (some hp) else none) f a g] (fun _ => True) (fun v ps => ∃ (f' : Nat → Int32) (a' : Nat → Nat → Int32), (ps = [wd_Txp cs h r (fun k => if k = 3 then (some hp) else none) f' a' g]) ∧ (TxOk (f' 4) (f' 5) (f' 8) (f' 9) (f' 17) (f' 21) (a' 2)) ∧ ((f' 9).toInt = (f 9).toInt) ∧ ((f' 17).toInt = (f 17).toInt) ∧ ((f' 21).toInt = (f 21).toInt) ∧ ((f' 15).toInt = (f 15).toInt) ∧ ((f' 20).toInt = (f 20).toInt) ∧ ((f' 4).toInt = (f 4).toInt) ∧ (R_Txp_keep p0 p1 f a f' a' v)) := by
  refine px_enter (by decide) (Nat.le_of_ble_eq_true rfl) ?_
  intro p e s m below meth c A ls hAe S hr hlk hnm hA hT hX hw hl
  have hl : lv_has ls 4 [(0, .ref h), (1, .int p0), (2, .int p1)] := hl
  have lp0 := Int32.le_toInt p0
  have up0 := Int32.toInt_lt p0
  have lp1 := Int32.le_toInt p1
  have up1 := Int32.toInt_lt p1
  have cstm1 : ((-1) : Int32).toInt = (-1) := rfl
  have cst2 : (2 : Int32).toInt = 2 := rfl
  have cst255 : (255 : Int32).toInt = 255 := rfl
  obtain ⟨lk, ⟨i2, i3⟩, ⟨i4, i5⟩, ⟨i6, i7⟩, i8, ⟨i9, i11⟩, i10, hrt⟩ := hinv0
  refine lv_iload_n S.x S.b d_Txp_keep_0 rfl (lv_at hl 1 rfl) ?_
  refine lv_iconst (v := 2) S.x S.b d_Txp_keep_1 (by decide) ?_
  refine lv_iand S.x S.b d_Txp_keep_2 ?_
  refine lv_topi (fun z1 ez1 => ?_)
  have lz1 := Int32.le_toInt z1
  have uz1 := Int32.toInt_lt z1
  refine lv_if_eq (tgt := 14) S.x S.b d_Txp_keep_3 (by decide) (fun c2 => ?_) (fun c2 => ?_)
  · have nc2 : z1.toInt = (0 : Int) := (i_eq (x := z1) (y := 0)).mp c2
    refine lv_iload_n S.x S.b d_Txp_keep_14 rfl (lv_at hl 2 rfl) ?_
    refine lv_istore_n (lv' := [(3, .int p1), (0, .ref h), (1, .int p0), (2, .int p1)]) S.x S.b d_Txp_keep_15 rfl hl (by decide) rfl (fun ls hl => ?_)
    refine lv_aload_n S.x S.b d_Txp_keep_16 rfl (lv_at hl 1 rfl) ?_
    refine px_get S k_Txp hT hw 0 0 12 (v := .int (f 12)) rfl rfl rfl (by decide) m6_225 d_Txp_keep_17 ?_
    refine lv_iconst (v := (-1)) S.x S.b d_Txp_keep_20 (by decide) ?_
    refine lv_icmp_ne (tgt := 36) S.x S.b d_Txp_keep_21 (by decide) (fun c4 => ?_) (fun c4 => ?_)
    · have nc4 : ¬ (f 12).toInt = (-1 : Int) := mt (i_eq (x := (f 12)) (y := (-1))).mpr c4
      refine lv_aload_n S.x S.b d_Txp_keep_36 rfl (lv_at hl 1 rfl) ?_
      refine lv_aload_n S.x S.b d_Txp_keep_37 rfl (lv_at hl 1 rfl) ?_
      refine px_get S k_Txp hT hw 0 0 11 (v := .int (f 11)) rfl rfl rfl (by decide) m6_224 d_Txp_keep_38 ?_
      refine lv_aload_n S.x S.b d_Txp_keep_41 rfl (lv_at hl 1 rfl) ?_
      refine lv_aload_n S.x S.b d_Txp_keep_42 rfl (lv_at hl 1 rfl) ?_
      refine px_get S k_Txp hT hw 0 0 11 (v := .int (f 11)) rfl rfl rfl (by decide) m6_224 d_Txp_keep_43 ?_
      first | refine px_calli (pr := []) (px_runV (As := [.int (f 11)]) (rest := [.int (f 11), .ref h]) S (c_Txp_peek l D cs h r g hp f a (f 11)  (show TxOk (f 4) (f 5) (f 8) (f 9) (f 17) (f 21) (a 2) from ⟨lk, ⟨i2, i3⟩, ⟨i4, i5⟩, ⟨i6, i7⟩, i8, ⟨i9, i11⟩, i10, hrt⟩) _) hT (pr := []) (pcs := [wd_Txp cs h r (fun k => if k = 3 then (some hp) else none) f a g]) hw px_X.tt (px_recv hT hw 0 0 rfl rfl rfl) m8_146 m8_143 m8_145 ms_5_15 m1_35 q_Txp_peek ⟨Nat.le_of_ble_eq_true rfl, Nat.le_of_ble_eq_true rfl⟩ hl.1 rfl (Nat.le_of_ble_eq_true rfl) d_Txp_keep_46 ⟨Nat.le_of_ble_eq_true rfl, Nat.le_of_ble_eq_true rfl⟩) hw hA (fun v7 p6 H locs hp6 hw => ?_) | refine px_calli (pr := []) (px_runV (As := [.int (f 11)]) (rest := [.int (f 11), .ref h]) S (c_Txp_peek l D cs h r g hp f a (f 11)  (show TxOk (f 4) (f 5) (f 8) (f 9) (f 17) (f 21) (a 2) from ⟨lk, ⟨by first | exact i2 | omega, by first | exact i3 | omega⟩, ⟨by first | exact i4 | omega, by first | exact i5 | omega⟩, ⟨by first | exact i6 | omega, by first | exact i7 | omega⟩, by first | exact i8 | omega, ⟨by first | exact i9 | omega, by first | exact i11 | omega⟩, by first | exact i10 | omega, hrt⟩) _) hT (pr := []) (pcs := [wd_Txp cs h r (fun k => if k = 3 then (some hp) else none) f a g]) hw px_X.tt (px_recv hT hw 0 0 rfl rfl rfl) m8_146 m8_143 m8_145 ms_5_15 m1_35 q_Txp_peek ⟨Nat.le_of_ble_eq_true rfl, Nat.le_of_ble_eq_true rfl⟩ hl.1 rfl (Nat.le_of_ble_eq_true rfl) d_Txp_keep_46 ⟨Nat.le_of_ble_eq_true rfl, Nat.le_of_ble_eq_true rfl⟩) hw hA (fun v7 p6 H locs hp6 hw => ?_)
      obtain ⟨rfl, e8⟩ := hp6
      have e8 : R_Txp_peek a (f 11) v7 := e8
      have lv7 := Int32.le_toInt v7
      have uv7 := Int32.toInt_lt v7
      refine lv_sipush (v := 255) S.x S.b d_Txp_keep_49 (by decide) ?_
      refine lv_aload_n S.x S.b d_Txp_keep_52 rfl (lv_at hl 1 rfl) ?_
      refine px_get S k_Txp hT hw 0 0 12 (v := .int (f 12)) rfl rfl rfl (by decide) m6_225 d_Txp_keep_53 ?_
      refine lv_ishl S.x S.b d_Txp_keep_56 ?_
      have lr9 := Int32.le_toInt (f 12)
      have ur9 := Int32.toInt_lt (f 12)
      refine lv_topi (fun z10 ez10 => ?_)
      have lz10 := Int32.le_toInt z10
      have uz10 := Int32.toInt_lt z10
      refine lv_iconst (v := (-1)) S.x S.b d_Txp_keep_57 (by decide) ?_
      refine lv_ixor S.x S.b d_Txp_keep_58 ?_
      refine lv_topi (fun z11 ez11 => ?_)
      have lz11 := Int32.le_toInt z11
      have uz11 := Int32.toInt_lt z11
      refine lv_iand S.x S.b d_Txp_keep_59 ?_
      refine lv_topi (fun z12 ez12 => ?_)
      have lz12 := Int32.le_toInt z12
      have uz12 := Int32.toInt_lt z12
      refine lv_iload_n S.x S.b d_Txp_keep_60 rfl (lv_at hl 0 rfl) ?_
      refine lv_aload_n S.x S.b d_Txp_keep_61 rfl (lv_at hl 1 rfl) ?_
      refine px_get S k_Txp hT hw 0 0 12 (v := .int (f 12)) rfl rfl rfl (by decide) m6_225 d_Txp_keep_62 ?_
      refine lv_ishl S.x S.b d_Txp_keep_65 ?_
      have lr13 := Int32.le_toInt (f 12)
      have ur13 := Int32.toInt_lt (f 12)
      refine lv_topi (fun z14 ez14 => ?_)
      have lz14 := Int32.le_toInt z14
      have uz14 := Int32.toInt_lt z14
      refine lv_ior S.x S.b d_Txp_keep_66 ?_
      refine lv_topi (fun z15 ez15 => ?_)
      have lz15 := Int32.le_toInt z15
      have uz15 := Int32.toInt_lt z15
      first | refine px_callv (pr := []) (px_runV (As := [.int (f 11), .int z15]) (rest := []) S (c_Txp_poke l D cs h r g hp f a (f 11) z15  (show TxOk (f 4) (f 5) (f 8) (f 9) (f 17) (f 21) (a 2) from ⟨lk, ⟨i2, i3⟩, ⟨i4, i5⟩, ⟨i6, i7⟩, i8, ⟨i9, i11⟩, i10, hrt⟩) _) hT (pr := []) (pcs := [wd_Txp cs h r (fun k => if k = 3 then (some hp) else none) f a g]) hw px_X.tt (px_recv hT hw 0 0 rfl rfl rfl) m8_129 m8_126 m8_128 ms_5_13 m1_35 q_Txp_poke ⟨Nat.le_of_ble_eq_true rfl, Nat.le_of_ble_eq_true rfl⟩ hl.1 rfl (Nat.le_of_ble_eq_true rfl) d_Txp_keep_67 ⟨Nat.le_of_ble_eq_true rfl, Nat.le_of_ble_eq_true rfl⟩) hw hA (fun p18 H locs hp18 hw => ?_) | refine px_callv (pr := []) (px_runV (As := [.int (f 11), .int z15]) (rest := []) S (c_Txp_poke l D cs h r g hp f a (f 11) z15  (show TxOk (f 4) (f 5) (f 8) (f 9) (f 17) (f 21) (a 2) from ⟨lk, ⟨by first | exact i2 | omega, by first | exact i3 | omega⟩, ⟨by first | exact i4 | omega, by first | exact i5 | omega⟩, ⟨by first | exact i6 | omega, by first | exact i7 | omega⟩, by first | exact i8 | omega, ⟨by first | exact i9 | omega, by first | exact i11 | omega⟩, by first | exact i10 | omega, hrt⟩) _) hT (pr := []) (pcs := [wd_Txp cs h r (fun k => if k = 3 then (some hp) else none) f a g]) hw px_X.tt (px_recv hT hw 0 0 rfl rfl rfl) m8_129 m8_126 m8_128 ms_5_13 m1_35 q_Txp_poke ⟨Nat.le_of_ble_eq_true rfl, Nat.le_of_ble_eq_true rfl⟩ hl.1 rfl (Nat.le_of_ble_eq_true rfl) d_Txp_keep_67 ⟨Nat.le_of_ble_eq_true rfl, Nat.le_of_ble_eq_true rfl⟩) hw hA (fun p18 H locs hp18 hw => ?_)
      obtain ⟨f16, a17, rfl, h27, e20, e21, e22, e23, e24, e25, e26⟩ := hp18
      obtain ⟨lk, ⟨i2, i3⟩, ⟨i4, i5⟩, ⟨i6, i7⟩, i8, ⟨i9, i11⟩, i10, hrt⟩ := h27
      have e20 : (f16 9).toInt = (f 9).toInt := e20
      have e21 : (f16 17).toInt = (f 17).toInt := e21
      have e22 : (f16 21).toInt = (f 21).toInt := e22
      have e23 : (f16 15).toInt = (f 15).toInt := e23
      have e24 : (f16 20).toInt = (f 20).toInt := e24
      have e25 : (f16 4).toInt = (f 4).toInt := e25
      have e26 : R_Txp_poke (f 11) z15 f a f16 a17 := e26
      refine lv_iload_n S.x S.b d_Txp_keep_70 rfl (lv_at hl 0 rfl) ?_
      first | exact px_iret (v := p1) S hr rfl hlk hAe hw (Nat.le_of_ble_eq_true rfl) (Nat.le_of_ble_eq_true rfl) (⟨f16, a17, rfl, (show TxOk (f16 4) (f16 5) (f16 8) (f16 9) (f16 17) (f16 21) (a17 2) from ⟨lk, ⟨i2, i3⟩, ⟨i4, i5⟩, ⟨i6, i7⟩, i8, ⟨i9, i11⟩, i10, hrt⟩), (show (f16 9).toInt = (f 9).toInt from e20), (show (f16 17).toInt = (f 17).toInt from e21), (show (f16 21).toInt = (f 21).toInt from e22), (show (f16 15).toInt = (f 15).toInt from e23), (show (f16 20).toInt = (f 20).toInt from e24), (show (f16 4).toInt = (f 4).toInt from e25), (show R_Txp_keep p0 p1 f a f16 a17 p1 from (Or.inl ⟨z1, ez1, Or.inl ⟨nc2, Or.inl ⟨nc4, v7, e8, z10, ez10, z11, ez11, z12, ez12, z14, ez14, z15, ez15, f16, a17, e26, rfl, rfl, rfl⟩⟩⟩))⟩) d_Txp_keep_71 | exact px_iret (v := p1) S hr rfl hlk hAe hw (Nat.le_of_ble_eq_true rfl) (Nat.le_of_ble_eq_true rfl) (⟨f16, a17, rfl, (show TxOk (f16 4) (f16 5) (f16 8) (f16 9) (f16 17) (f16 21) (a17 2) from ⟨lk, ⟨by first | exact i2 | omega, by first | exact i3 | omega⟩, ⟨by first | exact i4 | omega, by first | exact i5 | omega⟩, ⟨by first | exact i6 | omega, by first | exact i7 | omega⟩, by first | exact i8 | omega, ⟨by first | exact i9 | omega, by first | exact i11 | omega⟩, by first | exact i10 | omega, hrt⟩), (show (f16 9).toInt = (f 9).toInt from by first | exact e20 | omega), (show (f16 17).toInt = (f 17).toInt from by first | exact e21 | omega), (show (f16 21).toInt = (f 21).toInt from by first | exact e22 | omega), (show (f16 15).toInt = (f 15).toInt from by first | exact e23 | omega), (show (f16 20).toInt = (f 20).toInt from by first | exact e24 | omega), (show (f16 4).toInt = (f 4).toInt from by first | exact e25 | omega), (show R_Txp_keep p0 p1 f a f16 a17 p1 from (Or.inl ⟨z1, ez1, Or.inl ⟨nc2, Or.inl ⟨nc4, v7, e8, z10, ez10, z11, ez11, z12, ez12, z14, ez14, z15, ez15, f16, a17, e26, rfl, rfl, rfl⟩⟩⟩))⟩) d_Txp_keep_71
    · have nc4 : (f 12).toInt = (-1 : Int) := (i_eq (x := (f 12)) (y := (-1))).mp c4
      refine lv_aload_n S.x S.b d_Txp_keep_24 rfl (lv_at hl 1 rfl) ?_
      refine lv_aload_n S.x S.b d_Txp_keep_25 rfl (lv_at hl 1 rfl) ?_
      refine px_get S k_Txp hT hw 0 0 11 (v := .int (f 11)) rfl rfl rfl (by decide) m6_224 d_Txp_keep_26 ?_
      refine lv_iload_n S.x S.b d_Txp_keep_29 rfl (lv_at hl 0 rfl) ?_
      first | refine px_callv (pr := []) (px_runV (As := [.int (f 11), .int p1]) (rest := []) S (c_Txp_poke l D cs h r g hp f a (f 11) p1  (show TxOk (f 4) (f 5) (f 8) (f 9) (f 17) (f 21) (a 2) from ⟨lk, ⟨i2, i3⟩, ⟨i4, i5⟩, ⟨i6, i7⟩, i8, ⟨i9, i11⟩, i10, hrt⟩) _) hT (pr := []) (pcs := [wd_Txp cs h r (fun k => if k = 3 then (some hp) else none) f a g]) hw px_X.tt (px_recv hT hw 0 0 rfl rfl rfl) m8_129 m8_126 m8_128 ms_5_13 m1_35 q_Txp_poke ⟨Nat.le_of_ble_eq_true rfl, Nat.le_of_ble_eq_true rfl⟩ hl.1 rfl (Nat.le_of_ble_eq_true rfl) d_Txp_keep_30 ⟨Nat.le_of_ble_eq_true rfl, Nat.le_of_ble_eq_true rfl⟩) hw hA (fun p30 H locs hp30 hw => ?_) | refine px_callv (pr := []) (px_runV (As := [.int (f 11), .int p1]) (rest := []) S (c_Txp_poke l D cs h r g hp f a (f 11) p1  (show TxOk (f 4) (f 5) (f 8) (f 9) (f 17) (f 21) (a 2) from ⟨lk, ⟨by first | exact i2 | omega, by first | exact i3 | omega⟩, ⟨by first | exact i4 | omega, by first | exact i5 | omega⟩, ⟨by first | exact i6 | omega, by first | exact i7 | omega⟩, by first | exact i8 | omega, ⟨by first | exact i9 | omega, by first | exact i11 | omega⟩, by first | exact i10 | omega, hrt⟩) _) hT (pr := []) (pcs := [wd_Txp cs h r (fun k => if k = 3 then (some hp) else none) f a g]) hw px_X.tt (px_recv hT hw 0 0 rfl rfl rfl) m8_129 m8_126 m8_128 ms_5_13 m1_35 q_Txp_poke ⟨Nat.le_of_ble_eq_true rfl, Nat.le_of_ble_eq_true rfl⟩ hl.1 rfl (Nat.le_of_ble_eq_true rfl) d_Txp_keep_30 ⟨Nat.le_of_ble_eq_true rfl, Nat.le_of_ble_eq_true rfl⟩) hw hA (fun p30 H locs hp30 hw => ?_)
      obtain ⟨f28, a29, rfl, h39, e32, e33, e34, e35, e36, e37, e38⟩ := hp30
      obtain ⟨lk, ⟨i2, i3⟩, ⟨i4, i5⟩, ⟨i6, i7⟩, i8, ⟨i9, i11⟩, i10, hrt⟩ := h39
      have e32 : (f28 9).toInt = (f 9).toInt := e32
      have e33 : (f28 17).toInt = (f 17).toInt := e33
      have e34 : (f28 21).toInt = (f 21).toInt := e34
      have e35 : (f28 15).toInt = (f 15).toInt := e35
      have e36 : (f28 20).toInt = (f 20).toInt := e36
      have e37 : (f28 4).toInt = (f 4).toInt := e37
      have e38 : R_Txp_poke (f 11) p1 f a f28 a29 := e38
      refine lv_goto (tgt := 70) S.x S.b d_Txp_keep_33 (by decide) ?_
      refine lv_iload_n S.x S.b d_Txp_keep_70 rfl (lv_at hl 0 rfl) ?_
      first | exact px_iret (v := p1) S hr rfl hlk hAe hw (Nat.le_of_ble_eq_true rfl) (Nat.le_of_ble_eq_true rfl) (⟨f28, a29, rfl, (show TxOk (f28 4) (f28 5) (f28 8) (f28 9) (f28 17) (f28 21) (a29 2) from ⟨lk, ⟨i2, i3⟩, ⟨i4, i5⟩, ⟨i6, i7⟩, i8, ⟨i9, i11⟩, i10, hrt⟩), (show (f28 9).toInt = (f 9).toInt from e32), (show (f28 17).toInt = (f 17).toInt from e33), (show (f28 21).toInt = (f 21).toInt from e34), (show (f28 15).toInt = (f 15).toInt from e35), (show (f28 20).toInt = (f 20).toInt from e36), (show (f28 4).toInt = (f 4).toInt from e37), (show R_Txp_keep p0 p1 f a f28 a29 p1 from (Or.inl ⟨z1, ez1, Or.inl ⟨nc2, Or.inr ⟨nc4, f28, a29, e38, rfl, rfl, rfl⟩⟩⟩))⟩) d_Txp_keep_71 | exact px_iret (v := p1) S hr rfl hlk hAe hw (Nat.le_of_ble_eq_true rfl) (Nat.le_of_ble_eq_true rfl) (⟨f28, a29, rfl, (show TxOk (f28 4) (f28 5) (f28 8) (f28 9) (f28 17) (f28 21) (a29 2) from ⟨lk, ⟨by first | exact i2 | omega, by first | exact i3 | omega⟩, ⟨by first | exact i4 | omega, by first | exact i5 | omega⟩, ⟨by first | exact i6 | omega, by first | exact i7 | omega⟩, by first | exact i8 | omega, ⟨by first | exact i9 | omega, by first | exact i11 | omega⟩, by first | exact i10 | omega, hrt⟩), (show (f28 9).toInt = (f 9).toInt from by first | exact e32 | omega), (show (f28 17).toInt = (f 17).toInt from by first | exact e33 | omega), (show (f28 21).toInt = (f 21).toInt from by first | exact e34 | omega), (show (f28 15).toInt = (f 15).toInt from by first | exact e35 | omega), (show (f28 20).toInt = (f 20).toInt from by first | exact e36 | omega), (show (f28 4).toInt = (f 4).toInt from by first | exact e37 | omega), (show R_Txp_keep p0 p1 f a f28 a29 p1 from (Or.inl ⟨z1, ez1, Or.inl ⟨nc2, Or.inr ⟨nc4, f28, a29, e38, rfl, rfl, rfl⟩⟩⟩))⟩) d_Txp_keep_71
  · have nc2 : ¬ z1.toInt = (0 : Int) := mt (i_eq (x := z1) (y := 0)).mpr c2
    refine lv_iload_n S.x S.b d_Txp_keep_6 rfl (lv_at hl 2 rfl) ?_
    refine lv_sipush (v := 255) S.x S.b d_Txp_keep_7 (by decide) ?_
    refine lv_iand S.x S.b d_Txp_keep_10 ?_
    refine lv_topi (fun z40 ez40 => ?_)
    have lz40 := Int32.le_toInt z40
    have uz40 := Int32.toInt_lt z40
    have bz40 := i_andm p1 (m := 255) 8 (by decide) (by decide)
    rw [← ez40] at bz40
    have wz40 : 0 ≤ z40.toInt ∧ z40.toInt ≤ 255 := by simp only [Nat.reducePow, Int.reducePow] at bz40; omega
    refine lv_goto (tgt := 15) S.x S.b d_Txp_keep_11 (by decide) ?_
    refine lv_istore_n (lv' := [(3, .int z40), (0, .ref h), (1, .int p0), (2, .int p1)]) S.x S.b d_Txp_keep_15 rfl hl (by decide) rfl (fun ls hl => ?_)
    refine lv_aload_n S.x S.b d_Txp_keep_16 rfl (lv_at hl 1 rfl) ?_
    refine px_get S k_Txp hT hw 0 0 12 (v := .int (f 12)) rfl rfl rfl (by decide) m6_225 d_Txp_keep_17 ?_
    refine lv_iconst (v := (-1)) S.x S.b d_Txp_keep_20 (by decide) ?_
    refine lv_icmp_ne (tgt := 36) S.x S.b d_Txp_keep_21 (by decide) (fun c41 => ?_) (fun c41 => ?_)
    · have nc41 : ¬ (f 12).toInt = (-1 : Int) := mt (i_eq (x := (f 12)) (y := (-1))).mpr c41
      refine lv_aload_n S.x S.b d_Txp_keep_36 rfl (lv_at hl 1 rfl) ?_
      refine lv_aload_n S.x S.b d_Txp_keep_37 rfl (lv_at hl 1 rfl) ?_
      refine px_get S k_Txp hT hw 0 0 11 (v := .int (f 11)) rfl rfl rfl (by decide) m6_224 d_Txp_keep_38 ?_
      refine lv_aload_n S.x S.b d_Txp_keep_41 rfl (lv_at hl 1 rfl) ?_
      refine lv_aload_n S.x S.b d_Txp_keep_42 rfl (lv_at hl 1 rfl) ?_
      refine px_get S k_Txp hT hw 0 0 11 (v := .int (f 11)) rfl rfl rfl (by decide) m6_224 d_Txp_keep_43 ?_
      first | refine px_calli (pr := []) (px_runV (As := [.int (f 11)]) (rest := [.int (f 11), .ref h]) S (c_Txp_peek l D cs h r g hp f a (f 11)  (show TxOk (f 4) (f 5) (f 8) (f 9) (f 17) (f 21) (a 2) from ⟨lk, ⟨i2, i3⟩, ⟨i4, i5⟩, ⟨i6, i7⟩, i8, ⟨i9, i11⟩, i10, hrt⟩) _) hT (pr := []) (pcs := [wd_Txp cs h r (fun k => if k = 3 then (some hp) else none) f a g]) hw px_X.tt (px_recv hT hw 0 0 rfl rfl rfl) m8_146 m8_143 m8_145 ms_5_15 m1_35 q_Txp_peek ⟨Nat.le_of_ble_eq_true rfl, Nat.le_of_ble_eq_true rfl⟩ hl.1 rfl (Nat.le_of_ble_eq_true rfl) d_Txp_keep_46 ⟨Nat.le_of_ble_eq_true rfl, Nat.le_of_ble_eq_true rfl⟩) hw hA (fun v44 p43 H locs hp43 hw => ?_) | refine px_calli (pr := []) (px_runV (As := [.int (f 11)]) (rest := [.int (f 11), .ref h]) S (c_Txp_peek l D cs h r g hp f a (f 11)  (show TxOk (f 4) (f 5) (f 8) (f 9) (f 17) (f 21) (a 2) from ⟨lk, ⟨by first | exact i2 | omega, by first | exact i3 | omega⟩, ⟨by first | exact i4 | omega, by first | exact i5 | omega⟩, ⟨by first | exact i6 | omega, by first | exact i7 | omega⟩, by first | exact i8 | omega, ⟨by first | exact i9 | omega, by first | exact i11 | omega⟩, by first | exact i10 | omega, hrt⟩) _) hT (pr := []) (pcs := [wd_Txp cs h r (fun k => if k = 3 then (some hp) else none) f a g]) hw px_X.tt (px_recv hT hw 0 0 rfl rfl rfl) m8_146 m8_143 m8_145 ms_5_15 m1_35 q_Txp_peek ⟨Nat.le_of_ble_eq_true rfl, Nat.le_of_ble_eq_true rfl⟩ hl.1 rfl (Nat.le_of_ble_eq_true rfl) d_Txp_keep_46 ⟨Nat.le_of_ble_eq_true rfl, Nat.le_of_ble_eq_true rfl⟩) hw hA (fun v44 p43 H locs hp43 hw => ?_)
      obtain ⟨rfl, e45⟩ := hp43
      have e45 : R_Txp_peek a (f 11) v44 := e45
      have lv44 := Int32.le_toInt v44
      have uv44 := Int32.toInt_lt v44
      refine lv_sipush (v := 255) S.x S.b d_Txp_keep_49 (by decide) ?_
      refine lv_aload_n S.x S.b d_Txp_keep_52 rfl (lv_at hl 1 rfl) ?_
      refine px_get S k_Txp hT hw 0 0 12 (v := .int (f 12)) rfl rfl rfl (by decide) m6_225 d_Txp_keep_53 ?_
      refine lv_ishl S.x S.b d_Txp_keep_56 ?_
      have lr46 := Int32.le_toInt (f 12)
      have ur46 := Int32.toInt_lt (f 12)
      refine lv_topi (fun z47 ez47 => ?_)
      have lz47 := Int32.le_toInt z47
      have uz47 := Int32.toInt_lt z47
      refine lv_iconst (v := (-1)) S.x S.b d_Txp_keep_57 (by decide) ?_
      refine lv_ixor S.x S.b d_Txp_keep_58 ?_
      refine lv_topi (fun z48 ez48 => ?_)
      have lz48 := Int32.le_toInt z48
      have uz48 := Int32.toInt_lt z48
      refine lv_iand S.x S.b d_Txp_keep_59 ?_
      refine lv_topi (fun z49 ez49 => ?_)
      have lz49 := Int32.le_toInt z49
      have uz49 := Int32.toInt_lt z49
      refine lv_iload_n S.x S.b d_Txp_keep_60 rfl (lv_at hl 0 rfl) ?_
      refine lv_aload_n S.x S.b d_Txp_keep_61 rfl (lv_at hl 1 rfl) ?_
      refine px_get S k_Txp hT hw 0 0 12 (v := .int (f 12)) rfl rfl rfl (by decide) m6_225 d_Txp_keep_62 ?_
      refine lv_ishl S.x S.b d_Txp_keep_65 ?_
      have lr50 := Int32.le_toInt (f 12)
      have ur50 := Int32.toInt_lt (f 12)
      refine lv_topi (fun z51 ez51 => ?_)
      have lz51 := Int32.le_toInt z51
      have uz51 := Int32.toInt_lt z51
      refine lv_ior S.x S.b d_Txp_keep_66 ?_
      refine lv_topi (fun z52 ez52 => ?_)
      have lz52 := Int32.le_toInt z52
      have uz52 := Int32.toInt_lt z52
      first | refine px_callv (pr := []) (px_runV (As := [.int (f 11), .int z52]) (rest := []) S (c_Txp_poke l D cs h r g hp f a (f 11) z52  (show TxOk (f 4) (f 5) (f 8) (f 9) (f 17) (f 21) (a 2) from ⟨lk, ⟨i2, i3⟩, ⟨i4, i5⟩, ⟨i6, i7⟩, i8, ⟨i9, i11⟩, i10, hrt⟩) _) hT (pr := []) (pcs := [wd_Txp cs h r (fun k => if k = 3 then (some hp) else none) f a g]) hw px_X.tt (px_recv hT hw 0 0 rfl rfl rfl) m8_129 m8_126 m8_128 ms_5_13 m1_35 q_Txp_poke ⟨Nat.le_of_ble_eq_true rfl, Nat.le_of_ble_eq_true rfl⟩ hl.1 rfl (Nat.le_of_ble_eq_true rfl) d_Txp_keep_67 ⟨Nat.le_of_ble_eq_true rfl, Nat.le_of_ble_eq_true rfl⟩) hw hA (fun p55 H locs hp55 hw => ?_) | refine px_callv (pr := []) (px_runV (As := [.int (f 11), .int z52]) (rest := []) S (c_Txp_poke l D cs h r g hp f a (f 11) z52  (show TxOk (f 4) (f 5) (f 8) (f 9) (f 17) (f 21) (a 2) from ⟨lk, ⟨by first | exact i2 | omega, by first | exact i3 | omega⟩, ⟨by first | exact i4 | omega, by first | exact i5 | omega⟩, ⟨by first | exact i6 | omega, by first | exact i7 | omega⟩, by first | exact i8 | omega, ⟨by first | exact i9 | omega, by first | exact i11 | omega⟩, by first | exact i10 | omega, hrt⟩) _) hT (pr := []) (pcs := [wd_Txp cs h r (fun k => if k = 3 then (some hp) else none) f a g]) hw px_X.tt (px_recv hT hw 0 0 rfl rfl rfl) m8_129 m8_126 m8_128 ms_5_13 m1_35 q_Txp_poke ⟨Nat.le_of_ble_eq_true rfl, Nat.le_of_ble_eq_true rfl⟩ hl.1 rfl (Nat.le_of_ble_eq_true rfl) d_Txp_keep_67 ⟨Nat.le_of_ble_eq_true rfl, Nat.le_of_ble_eq_true rfl⟩) hw hA (fun p55 H locs hp55 hw => ?_)
      obtain ⟨f53, a54, rfl, h64, e57, e58, e59, e60, e61, e62, e63⟩ := hp55
      obtain ⟨lk, ⟨i2, i3⟩, ⟨i4, i5⟩, ⟨i6, i7⟩, i8, ⟨i9, i11⟩, i10, hrt⟩ := h64
      have e57 : (f53 9).toInt = (f 9).toInt := e57
      have e58 : (f53 17).toInt = (f 17).toInt := e58
      have e59 : (f53 21).toInt = (f 21).toInt := e59
      have e60 : (f53 15).toInt = (f 15).toInt := e60
      have e61 : (f53 20).toInt = (f 20).toInt := e61
      have e62 : (f53 4).toInt = (f 4).toInt := e62
      have e63 : R_Txp_poke (f 11) z52 f a f53 a54 := e63
      refine lv_iload_n S.x S.b d_Txp_keep_70 rfl (lv_at hl 0 rfl) ?_
      first | exact px_iret (v := z40) S hr rfl hlk hAe hw (Nat.le_of_ble_eq_true rfl) (Nat.le_of_ble_eq_true rfl) (⟨f53, a54, rfl, (show TxOk (f53 4) (f53 5) (f53 8) (f53 9) (f53 17) (f53 21) (a54 2) from ⟨lk, ⟨i2, i3⟩, ⟨i4, i5⟩, ⟨i6, i7⟩, i8, ⟨i9, i11⟩, i10, hrt⟩), (show (f53 9).toInt = (f 9).toInt from e57), (show (f53 17).toInt = (f 17).toInt from e58), (show (f53 21).toInt = (f 21).toInt from e59), (show (f53 15).toInt = (f 15).toInt from e60), (show (f53 20).toInt = (f 20).toInt from e61), (show (f53 4).toInt = (f 4).toInt from e62), (show R_Txp_keep p0 p1 f a f53 a54 z40 from (Or.inl ⟨z1, ez1, Or.inr ⟨nc2, z40, ez40, Or.inl ⟨nc41, v44, e45, z47, ez47, z48, ez48, z49, ez49, z51, ez51, z52, ez52, f53, a54, e63, rfl, rfl, rfl⟩⟩⟩))⟩) d_Txp_keep_71 | exact px_iret (v := z40) S hr rfl hlk hAe hw (Nat.le_of_ble_eq_true rfl) (Nat.le_of_ble_eq_true rfl) (⟨f53, a54, rfl, (show TxOk (f53 4) (f53 5) (f53 8) (f53 9) (f53 17) (f53 21) (a54 2) from ⟨lk, ⟨by first | exact i2 | omega, by first | exact i3 | omega⟩, ⟨by first | exact i4 | omega, by first | exact i5 | omega⟩, ⟨by first | exact i6 | omega, by first | exact i7 | omega⟩, by first | exact i8 | omega, ⟨by first | exact i9 | omega, by first | exact i11 | omega⟩, by first | exact i10 | omega, hrt⟩), (show (f53 9).toInt = (f 9).toInt from by first | exact e57 | omega), (show (f53 17).toInt = (f 17).toInt from by first | exact e58 | omega), (show (f53 21).toInt = (f 21).toInt from by first | exact e59 | omega), (show (f53 15).toInt = (f 15).toInt from by first | exact e60 | omega), (show (f53 20).toInt = (f 20).toInt from by first | exact e61 | omega), (show (f53 4).toInt = (f 4).toInt from by first | exact e62 | omega), (show R_Txp_keep p0 p1 f a f53 a54 z40 from (Or.inl ⟨z1, ez1, Or.inr ⟨nc2, z40, ez40, Or.inl ⟨nc41, v44, e45, z47, ez47, z48, ez48, z49, ez49, z51, ez51, z52, ez52, f53, a54, e63, rfl, rfl, rfl⟩⟩⟩))⟩) d_Txp_keep_71
    · have nc41 : (f 12).toInt = (-1 : Int) := (i_eq (x := (f 12)) (y := (-1))).mp c41
      refine lv_aload_n S.x S.b d_Txp_keep_24 rfl (lv_at hl 1 rfl) ?_
      refine lv_aload_n S.x S.b d_Txp_keep_25 rfl (lv_at hl 1 rfl) ?_
      refine px_get S k_Txp hT hw 0 0 11 (v := .int (f 11)) rfl rfl rfl (by decide) m6_224 d_Txp_keep_26 ?_
      refine lv_iload_n S.x S.b d_Txp_keep_29 rfl (lv_at hl 0 rfl) ?_
      first | refine px_callv (pr := []) (px_runV (As := [.int (f 11), .int z40]) (rest := []) S (c_Txp_poke l D cs h r g hp f a (f 11) z40  (show TxOk (f 4) (f 5) (f 8) (f 9) (f 17) (f 21) (a 2) from ⟨lk, ⟨i2, i3⟩, ⟨i4, i5⟩, ⟨i6, i7⟩, i8, ⟨i9, i11⟩, i10, hrt⟩) _) hT (pr := []) (pcs := [wd_Txp cs h r (fun k => if k = 3 then (some hp) else none) f a g]) hw px_X.tt (px_recv hT hw 0 0 rfl rfl rfl) m8_129 m8_126 m8_128 ms_5_13 m1_35 q_Txp_poke ⟨Nat.le_of_ble_eq_true rfl, Nat.le_of_ble_eq_true rfl⟩ hl.1 rfl (Nat.le_of_ble_eq_true rfl) d_Txp_keep_30 ⟨Nat.le_of_ble_eq_true rfl, Nat.le_of_ble_eq_true rfl⟩) hw hA (fun p67 H locs hp67 hw => ?_) | refine px_callv (pr := []) (px_runV (As := [.int (f 11), .int z40]) (rest := []) S (c_Txp_poke l D cs h r g hp f a (f 11) z40  (show TxOk (f 4) (f 5) (f 8) (f 9) (f 17) (f 21) (a 2) from ⟨lk, ⟨by first | exact i2 | omega, by first | exact i3 | omega⟩, ⟨by first | exact i4 | omega, by first | exact i5 | omega⟩, ⟨by first | exact i6 | omega, by first | exact i7 | omega⟩, by first | exact i8 | omega, ⟨by first | exact i9 | omega, by first | exact i11 | omega⟩, by first | exact i10 | omega, hrt⟩) _) hT (pr := []) (pcs := [wd_Txp cs h r (fun k => if k = 3 then (some hp) else none) f a g]) hw px_X.tt (px_recv hT hw 0 0 rfl rfl rfl) m8_129 m8_126 m8_128 ms_5_13 m1_35 q_Txp_poke ⟨Nat.le_of_ble_eq_true rfl, Nat.le_of_ble_eq_true rfl⟩ hl.1 rfl (Nat.le_of_ble_eq_true rfl) d_Txp_keep_30 ⟨Nat.le_of_ble_eq_true rfl, Nat.le_of_ble_eq_true rfl⟩) hw hA (fun p67 H locs hp67 hw => ?_)
      obtain ⟨f65, a66, rfl, h76, e69, e70, e71, e72, e73, e74, e75⟩ := hp67
      obtain ⟨lk, ⟨i2, i3⟩, ⟨i4, i5⟩, ⟨i6, i7⟩, i8, ⟨i9, i11⟩, i10, hrt⟩ := h76
      have e69 : (f65 9).toInt = (f 9).toInt := e69
      have e70 : (f65 17).toInt = (f 17).toInt := e70
      have e71 : (f65 21).toInt = (f 21).toInt := e71
      have e72 : (f65 15).toInt = (f 15).toInt := e72
      have e73 : (f65 20).toInt = (f 20).toInt := e73
      have e74 : (f65 4).toInt = (f 4).toInt := e74
      have e75 : R_Txp_poke (f 11) z40 f a f65 a66 := e75
      refine lv_goto (tgt := 70) S.x S.b d_Txp_keep_33 (by decide) ?_
      refine lv_iload_n S.x S.b d_Txp_keep_70 rfl (lv_at hl 0 rfl) ?_
      first | exact px_iret (v := z40) S hr rfl hlk hAe hw (Nat.le_of_ble_eq_true rfl) (Nat.le_of_ble_eq_true rfl) (⟨f65, a66, rfl, (show TxOk (f65 4) (f65 5) (f65 8) (f65 9) (f65 17) (f65 21) (a66 2) from ⟨lk, ⟨i2, i3⟩, ⟨i4, i5⟩, ⟨i6, i7⟩, i8, ⟨i9, i11⟩, i10, hrt⟩), (show (f65 9).toInt = (f 9).toInt from e69), (show (f65 17).toInt = (f 17).toInt from e70), (show (f65 21).toInt = (f 21).toInt from e71), (show (f65 15).toInt = (f 15).toInt from e72), (show (f65 20).toInt = (f 20).toInt from e73), (show (f65 4).toInt = (f 4).toInt from e74), (show R_Txp_keep p0 p1 f a f65 a66 z40 from (Or.inl ⟨z1, ez1, Or.inr ⟨nc2, z40, ez40, Or.inr ⟨nc41, f65, a66, e75, rfl, rfl, rfl⟩⟩⟩))⟩) d_Txp_keep_71 | exact px_iret (v := z40) S hr rfl hlk hAe hw (Nat.le_of_ble_eq_true rfl) (Nat.le_of_ble_eq_true rfl) (⟨f65, a66, rfl, (show TxOk (f65 4) (f65 5) (f65 8) (f65 9) (f65 17) (f65 21) (a66 2) from ⟨lk, ⟨by first | exact i2 | omega, by first | exact i3 | omega⟩, ⟨by first | exact i4 | omega, by first | exact i5 | omega⟩, ⟨by first | exact i6 | omega, by first | exact i7 | omega⟩, by first | exact i8 | omega, ⟨by first | exact i9 | omega, by first | exact i11 | omega⟩, by first | exact i10 | omega, hrt⟩), (show (f65 9).toInt = (f 9).toInt from by first | exact e69 | omega), (show (f65 17).toInt = (f 17).toInt from by first | exact e70 | omega), (show (f65 21).toInt = (f 21).toInt from by first | exact e71 | omega), (show (f65 15).toInt = (f 15).toInt from by first | exact e72 | omega), (show (f65 20).toInt = (f 20).toInt from by first | exact e73 | omega), (show (f65 4).toInt = (f 4).toInt from by first | exact e74 | omega), (show R_Txp_keep p0 p1 f a f65 a66 z40 from (Or.inl ⟨z1, ez1, Or.inr ⟨nc2, z40, ez40, Or.inr ⟨nc41, f65, a66, e75, rfl, rfl, rfl⟩⟩⟩))⟩) d_Txp_keep_71
abbrev b_Txp_binary : ByteArray := prog_11_method_14_code
def y_Txp_binary : MethodName := ⟨"HomeSystem$TextProcess", "binary", "(I)V"⟩
theorem d_Txp_binary_0 : decode b_Txp_binary 0 = .ok (.aload_n 0, 1) := by decide +kernel
theorem d_Txp_binary_1 : decode b_Txp_binary 1 = .ok (.invokevirtual 119, 3) := by decide +kernel
theorem d_Txp_binary_4 : decode b_Txp_binary 4 = .ok (.istore_n 2, 1) := by decide +kernel
theorem d_Txp_binary_5 : decode b_Txp_binary 5 = .ok (.aload_n 0, 1) := by decide +kernel
theorem d_Txp_binary_6 : decode b_Txp_binary 6 = .ok (.invokevirtual 119, 3) := by decide +kernel
theorem d_Txp_binary_9 : decode b_Txp_binary 9 = .ok (.istore_n 3, 1) := by decide +kernel
theorem d_Txp_binary_10 : decode b_Txp_binary 10 = .ok (.iload_n 1, 1) := by decide +kernel
theorem d_Txp_binary_11 : decode b_Txp_binary 11 = .ok (.iload_n 2, 1) := by decide +kernel
theorem d_Txp_binary_12 : decode b_Txp_binary 12 = .ok (.invokestatic 142, 3) := by decide +kernel
theorem d_Txp_binary_15 : decode b_Txp_binary 15 = .ok (.ifCond .eq 12, 3) := by decide +kernel
theorem d_Txp_binary_18 : decode b_Txp_binary 18 = .ok (.aload_n 0, 1) := by decide +kernel
theorem d_Txp_binary_19 : decode b_Txp_binary 19 = .ok (.iconst 3, 1) := by decide +kernel
theorem d_Txp_binary_20 : decode b_Txp_binary 20 = .ok (.iconst 0, 1) := by decide +kernel
theorem d_Txp_binary_21 : decode b_Txp_binary 21 = .ok (.invokevirtual 105, 3) := by decide +kernel
theorem d_Txp_binary_24 : decode b_Txp_binary 24 = .ok (.goto 13, 3) := by decide +kernel
theorem d_Txp_binary_27 : decode b_Txp_binary 27 = .ok (.aload_n 0, 1) := by decide +kernel
theorem d_Txp_binary_28 : decode b_Txp_binary 28 = .ok (.iload_n 1, 1) := by decide +kernel
theorem d_Txp_binary_29 : decode b_Txp_binary 29 = .ok (.iload_n 3, 1) := by decide +kernel
theorem d_Txp_binary_30 : decode b_Txp_binary 30 = .ok (.iload_n 2, 1) := by decide +kernel
theorem d_Txp_binary_31 : decode b_Txp_binary 31 = .ok (.invokestatic 146, 3) := by decide +kernel
theorem d_Txp_binary_34 : decode b_Txp_binary 34 = .ok (.invokevirtual 74, 3) := by decide +kernel
theorem d_Txp_binary_37 : decode b_Txp_binary 37 = .ok (.return_, 1) := by decide +kernel
theorem q_Txp_binary : px_y y_Txp_binary 1 := by unfold px_y; decide +kernel
set_option maxHeartbeats 4000000 in
set_option maxRecDepth 100000 in
theorem c_Txp_binary (l : Launch) (D : va_G) (cs : Nat → ClassId) (h : Nat) (r : Nat → Nat) (g : Nat → Nat → Option Nat) (hp : Nat) (f : Nat → Int32) (a : Nat → Nat → Int32) (p0 : Int32)  (hinv0 : TxOk (f 4) (f 5) (f 8) (f 9) (f 17) (f 21) (a 2)) (g0 : (f 21).toInt = 0) : MetV l y_Txp_binary b_Txp_binary 4 D cs 1 40 (0) (0) [.ref h, .int p0] [wd_Txp cs h r (fun k => if k = 3 then (some hp) else none) f a g] (fun _ => True) (fun ps => ∃ (f' : Nat → Int32) (a' : Nat → Nat → Int32), (ps = [wd_Txp cs h r (fun k => if k = 3 then (some hp) else none) f' a' g]) ∧ (TxOk (f' 4) (f' 5) (f' 8) (f' 9) (f' 17) (f' 21) (a' 2)) ∧ ((f' 9).toInt = (f 9).toInt) ∧ ((f' 17).toInt = (f 17).toInt) ∧ ((f' 21).toInt = 0) ∧ ((f' 15).toInt = (f 15).toInt) ∧ ((f' 20).toInt = (f 20).toInt) ∧ (R_Txp_binary p0 f a f' a')) := by
  refine px_enter (by decide) (Nat.le_of_ble_eq_true rfl) ?_
  intro p e s m below meth c A ls hAe S hr hlk hnm hA hT hX hw hl
  have hl : lv_has ls 4 [(0, .ref h), (1, .int p0)] := hl
  have lp0 := Int32.le_toInt p0
  have up0 := Int32.toInt_lt p0
  have cst0 : (0 : Int32).toInt = 0 := rfl
  have cst3 : (3 : Int32).toInt = 3 := rfl
  obtain ⟨lk, ⟨i2, i3⟩, ⟨i4, i5⟩, ⟨i6, i7⟩, i8, ⟨i9, i11⟩, i10, hrt⟩ := hinv0
  refine lv_aload_n S.x S.b d_Txp_binary_0 rfl (lv_at hl 0 rfl) ?_
  first | refine px_calli (pr := []) (px_runV (As := []) (rest := []) S (c_Txp_pop l D cs h r g hp f a   (show TxOk (f 4) (f 5) (f 8) (f 9) (f 17) (f 21) (a 2) from ⟨lk, ⟨i2, i3⟩, ⟨i4, i5⟩, ⟨i6, i7⟩, i8, ⟨i9, i11⟩, i10, hrt⟩) _) hT (pr := []) (pcs := [wd_Txp cs h r (fun k => if k = 3 then (some hp) else none) f a g]) hw px_X.tt (px_recv hT hw 0 0 rfl rfl rfl) m9_15 m9_12 m9_14 ms_7_0 m1_35 q_Txp_pop ⟨Nat.le_of_ble_eq_true rfl, Nat.le_of_ble_eq_true rfl⟩ hl.1 rfl (Nat.le_of_ble_eq_true rfl) d_Txp_binary_1 ⟨Nat.le_of_ble_eq_true rfl, Nat.le_of_ble_eq_true rfl⟩) hw hA (fun v4 p3 H locs hp3 hw => ?_) | refine px_calli (pr := []) (px_runV (As := []) (rest := []) S (c_Txp_pop l D cs h r g hp f a   (show TxOk (f 4) (f 5) (f 8) (f 9) (f 17) (f 21) (a 2) from ⟨lk, ⟨by first | exact i2 | omega, by first | exact i3 | omega⟩, ⟨by first | exact i4 | omega, by first | exact i5 | omega⟩, ⟨by first | exact i6 | omega, by first | exact i7 | omega⟩, by first | exact i8 | omega, ⟨by first | exact i9 | omega, by first | exact i11 | omega⟩, by first | exact i10 | omega, hrt⟩) _) hT (pr := []) (pcs := [wd_Txp cs h r (fun k => if k = 3 then (some hp) else none) f a g]) hw px_X.tt (px_recv hT hw 0 0 rfl rfl rfl) m9_15 m9_12 m9_14 ms_7_0 m1_35 q_Txp_pop ⟨Nat.le_of_ble_eq_true rfl, Nat.le_of_ble_eq_true rfl⟩ hl.1 rfl (Nat.le_of_ble_eq_true rfl) d_Txp_binary_1 ⟨Nat.le_of_ble_eq_true rfl, Nat.le_of_ble_eq_true rfl⟩) hw hA (fun v4 p3 H locs hp3 hw => ?_)
  obtain ⟨f1, a2, rfl, h12, e5, e6, e7, e8, e9, e10, e11⟩ := hp3
  obtain ⟨lk, ⟨i2, i3⟩, ⟨i4, i5⟩, ⟨i6, i7⟩, i8, ⟨i9, i11⟩, i10, hrt⟩ := h12
  have e5 : (f1 9).toInt = (f 9).toInt := e5
  have e6 : (f1 17).toInt = (f 17).toInt := e6
  have e7 : (f1 21).toInt = (f 21).toInt := e7
  have e8 : (f1 15).toInt = (f 15).toInt := e8
  have e9 : (f1 20).toInt = (f 20).toInt := e9
  have e10 : (f1 4).toInt = (f 4).toInt := e10
  have e11 : R_Txp_pop f a f1 a2 v4 := e11
  have lv4 := Int32.le_toInt v4
  have uv4 := Int32.toInt_lt v4
  refine lv_istore_n (lv' := [(2, .int v4), (0, .ref h), (1, .int p0)]) S.x S.b d_Txp_binary_4 rfl hl (by decide) rfl (fun ls hl => ?_)
  refine lv_aload_n S.x S.b d_Txp_binary_5 rfl (lv_at hl 1 rfl) ?_
  first | refine px_calli (pr := []) (px_runV (As := []) (rest := []) S (c_Txp_pop l D cs h r g hp f1 a2   (show TxOk (f1 4) (f1 5) (f1 8) (f1 9) (f1 17) (f1 21) (a2 2) from ⟨lk, ⟨i2, i3⟩, ⟨i4, i5⟩, ⟨i6, i7⟩, i8, ⟨i9, i11⟩, i10, hrt⟩) _) hT (pr := []) (pcs := [wd_Txp cs h r (fun k => if k = 3 then (some hp) else none) f1 a2 g]) hw px_X.tt (px_recv hT hw 0 0 rfl rfl rfl) m9_15 m9_12 m9_14 ms_7_0 m1_35 q_Txp_pop ⟨Nat.le_of_ble_eq_true rfl, Nat.le_of_ble_eq_true rfl⟩ hl.1 rfl (Nat.le_of_ble_eq_true rfl) d_Txp_binary_6 ⟨Nat.le_of_ble_eq_true rfl, Nat.le_of_ble_eq_true rfl⟩) hw hA (fun v16 p15 H locs hp15 hw => ?_) | refine px_calli (pr := []) (px_runV (As := []) (rest := []) S (c_Txp_pop l D cs h r g hp f1 a2   (show TxOk (f1 4) (f1 5) (f1 8) (f1 9) (f1 17) (f1 21) (a2 2) from ⟨lk, ⟨by first | exact i2 | omega, by first | exact i3 | omega⟩, ⟨by first | exact i4 | omega, by first | exact i5 | omega⟩, ⟨by first | exact i6 | omega, by first | exact i7 | omega⟩, by first | exact i8 | omega, ⟨by first | exact i9 | omega, by first | exact i11 | omega⟩, by first | exact i10 | omega, hrt⟩) _) hT (pr := []) (pcs := [wd_Txp cs h r (fun k => if k = 3 then (some hp) else none) f1 a2 g]) hw px_X.tt (px_recv hT hw 0 0 rfl rfl rfl) m9_15 m9_12 m9_14 ms_7_0 m1_35 q_Txp_pop ⟨Nat.le_of_ble_eq_true rfl, Nat.le_of_ble_eq_true rfl⟩ hl.1 rfl (Nat.le_of_ble_eq_true rfl) d_Txp_binary_6 ⟨Nat.le_of_ble_eq_true rfl, Nat.le_of_ble_eq_true rfl⟩) hw hA (fun v16 p15 H locs hp15 hw => ?_)
  obtain ⟨f13, a14, rfl, h24, e17, e18, e19, e20, e21, e22, e23⟩ := hp15
  obtain ⟨lk, ⟨i2, i3⟩, ⟨i4, i5⟩, ⟨i6, i7⟩, i8, ⟨i9, i11⟩, i10, hrt⟩ := h24
  have e17 : (f13 9).toInt = (f1 9).toInt := e17
  have e18 : (f13 17).toInt = (f1 17).toInt := e18
  have e19 : (f13 21).toInt = (f1 21).toInt := e19
  have e20 : (f13 15).toInt = (f1 15).toInt := e20
  have e21 : (f13 20).toInt = (f1 20).toInt := e21
  have e22 : (f13 4).toInt = (f1 4).toInt := e22
  have e23 : R_Txp_pop f1 a2 f13 a14 v16 := e23
  have lv16 := Int32.le_toInt v16
  have uv16 := Int32.toInt_lt v16
  refine lv_istore_n (lv' := [(3, .int v16), (2, .int v4), (0, .ref h), (1, .int p0)]) S.x S.b d_Txp_binary_9 rfl hl (by decide) rfl (fun ls hl => ?_)
  refine lv_iload_n S.x S.b d_Txp_binary_10 rfl (lv_at hl 3 rfl) ?_
  refine lv_iload_n S.x S.b d_Txp_binary_11 rfl (lv_at hl 1 rfl) ?_
  refine px_calli (pr := [wd_Txp cs h r (fun k => if k = 3 then (some hp) else none) f13 a14 g]) (px_runSN (As := [.int p0, .int v4]) (rest := []) S (c_Hs_byZero l D cs  p0 v4   _) hT (pr := [wd_Txp cs h r (fun k => if k = 3 then (some hp) else none) f13 a14 g]) (pcs := []) hw px_X.tt m5_97 m9_60n m5_96 m1_1 q_Hs_byZero ⟨Nat.le_of_ble_eq_true rfl, Nat.le_of_ble_eq_true rfl⟩ hl.1 rfl (Nat.le_of_ble_eq_true rfl) d_Txp_binary_12 ⟨Nat.le_of_ble_eq_true rfl, Nat.le_of_ble_eq_true rfl⟩) hw hA (fun v26 p25 H locs hp25 hw => ?_)
  obtain ⟨rfl, e27, e28⟩ := hp25
  have e27 := z_rng e27
  have e28 : R_Hs_byZero p0 v4 v26 := e28
  have lv26 := Int32.le_toInt v26
  have uv26 := Int32.toInt_lt v26
  refine lv_if_eq (tgt := 27) S.x S.b d_Txp_binary_15 (by decide) (fun c29 => ?_) (fun c29 => ?_)
  · have nc29 : v26.toInt = (0 : Int) := (i_eq (x := v26) (y := 0)).mp c29
    refine lv_aload_n S.x S.b d_Txp_binary_27 rfl (lv_at hl 2 rfl) ?_
    refine lv_iload_n S.x S.b d_Txp_binary_28 rfl (lv_at hl 3 rfl) ?_
    refine lv_iload_n S.x S.b d_Txp_binary_29 rfl (lv_at hl 0 rfl) ?_
    refine lv_iload_n S.x S.b d_Txp_binary_30 rfl (lv_at hl 1 rfl) ?_
    refine px_calli (pr := [wd_Txp cs h r (fun k => if k = 3 then (some hp) else none) f13 a14 g]) (px_runSN (As := [.int p0, .int v16, .int v4]) (rest := [.ref h]) S (c_Hs_reckon l D cs  p0 v16 v4   _) hT (pr := [wd_Txp cs h r (fun k => if k = 3 then (some hp) else none) f13 a14 g]) (pcs := []) hw px_X.tt m5_100 m9_61n m5_99 m1_1 q_Hs_reckon ⟨Nat.le_of_ble_eq_true rfl, Nat.le_of_ble_eq_true rfl⟩ hl.1 rfl (Nat.le_of_ble_eq_true rfl) d_Txp_binary_31 ⟨Nat.le_of_ble_eq_true rfl, Nat.le_of_ble_eq_true rfl⟩) hw hA (fun v32 p31 H locs hp31 hw => ?_)
    obtain ⟨rfl, e33⟩ := hp31
    have e33 : R_Hs_reckon p0 v16 v4 v32 := e33
    have lv32 := Int32.le_toInt v32
    have uv32 := Int32.toInt_lt v32
    first | refine px_callv (pr := []) (px_runV (As := [.int v32]) (rest := []) S (c_Txp_push l D cs h r g hp f13 a14 v32  (show TxOk (f13 4) (f13 5) (f13 8) (f13 9) (f13 17) (f13 21) (a14 2) from ⟨lk, ⟨i2, i3⟩, ⟨i4, i5⟩, ⟨i6, i7⟩, i8, ⟨i9, i11⟩, i10, hrt⟩) _) hT (pr := []) (pcs := [wd_Txp cs h r (fun k => if k = 3 then (some hp) else none) f13 a14 g]) hw px_X.tt (px_recv hT hw 0 0 rfl rfl rfl) m8_47 m8_44 m8_46 ms_5_6 m1_35 q_Txp_push ⟨Nat.le_of_ble_eq_true rfl, Nat.le_of_ble_eq_true rfl⟩ hl.1 rfl (Nat.le_of_ble_eq_true rfl) d_Txp_binary_34 ⟨Nat.le_of_ble_eq_true rfl, Nat.le_of_ble_eq_true rfl⟩) hw hA (fun p36 H locs hp36 hw => ?_) | refine px_callv (pr := []) (px_runV (As := [.int v32]) (rest := []) S (c_Txp_push l D cs h r g hp f13 a14 v32  (show TxOk (f13 4) (f13 5) (f13 8) (f13 9) (f13 17) (f13 21) (a14 2) from ⟨lk, ⟨by first | exact i2 | omega, by first | exact i3 | omega⟩, ⟨by first | exact i4 | omega, by first | exact i5 | omega⟩, ⟨by first | exact i6 | omega, by first | exact i7 | omega⟩, by first | exact i8 | omega, ⟨by first | exact i9 | omega, by first | exact i11 | omega⟩, by first | exact i10 | omega, hrt⟩) _) hT (pr := []) (pcs := [wd_Txp cs h r (fun k => if k = 3 then (some hp) else none) f13 a14 g]) hw px_X.tt (px_recv hT hw 0 0 rfl rfl rfl) m8_47 m8_44 m8_46 ms_5_6 m1_35 q_Txp_push ⟨Nat.le_of_ble_eq_true rfl, Nat.le_of_ble_eq_true rfl⟩ hl.1 rfl (Nat.le_of_ble_eq_true rfl) d_Txp_binary_34 ⟨Nat.le_of_ble_eq_true rfl, Nat.le_of_ble_eq_true rfl⟩) hw hA (fun p36 H locs hp36 hw => ?_)
    obtain ⟨f34, a35, rfl, h45, e38, e39, e40, e41, e42, e43, e44⟩ := hp36
    obtain ⟨lk, ⟨i2, i3⟩, ⟨i4, i5⟩, ⟨i6, i7⟩, i8, ⟨i9, i11⟩, i10, hrt⟩ := h45
    have e38 : (f34 9).toInt = (f13 9).toInt := e38
    have e39 : (f34 17).toInt = (f13 17).toInt := e39
    have e40 : (f34 21).toInt = (f13 21).toInt := e40
    have e41 : (f34 15).toInt = (f13 15).toInt := e41
    have e42 : (f34 20).toInt = (f13 20).toInt := e42
    have e43 : (f34 4).toInt = (f13 4).toInt := e43
    have e44 : R_Txp_push v32 f13 a14 f34 a35 := e44
    first | exact px_vret S hr hlk hAe hw (Nat.le_of_ble_eq_true rfl) (Nat.le_of_ble_eq_true rfl) (⟨f34, a35, rfl, (show TxOk (f34 4) (f34 5) (f34 8) (f34 9) (f34 17) (f34 21) (a35 2) from ⟨lk, ⟨i2, i3⟩, ⟨i4, i5⟩, ⟨i6, i7⟩, i8, ⟨i9, i11⟩, i10, hrt⟩), (show (f34 9).toInt = (f 9).toInt from (oz_e13fc83238 e5 e38 e17)), (show (f34 17).toInt = (f 17).toInt from (oz_e13fc83238 e6 e39 e18)), (show (f34 21).toInt = 0 from (oz_96aae3e9d2 e40 e19 e7 g0 i9)), (show (f34 15).toInt = (f 15).toInt from (oz_e13fc83238 e8 e41 e20)), (show (f34 20).toInt = (f 20).toInt from (oz_e13fc83238 e9 e42 e21)), (show R_Txp_binary p0 f a f34 a35 from (Or.inl ⟨f1, a2, v4, e11, f13, a14, v16, e23, v26, e28, Or.inl ⟨nc29, v32, e33, f34, a35, e44, rfl, rfl⟩⟩))⟩) d_Txp_binary_37 | exact px_vret S hr hlk hAe hw (Nat.le_of_ble_eq_true rfl) (Nat.le_of_ble_eq_true rfl) (⟨f34, a35, rfl, (show TxOk (f34 4) (f34 5) (f34 8) (f34 9) (f34 17) (f34 21) (a35 2) from ⟨lk, ⟨by first | exact i2 | omega, by first | exact i3 | omega⟩, ⟨by first | exact i4 | omega, by first | exact i5 | omega⟩, ⟨by first | exact i6 | omega, by first | exact i7 | omega⟩, by first | exact i8 | omega, ⟨by first | exact i9 | omega, by first | exact i11 | omega⟩, by first | exact i10 | omega, hrt⟩), (show (f34 9).toInt = (f 9).toInt from by first | exact oz_e13fc83238 e5 e38 e17 | omega), (show (f34 17).toInt = (f 17).toInt from by first | exact oz_e13fc83238 e6 e39 e18 | omega), (show (f34 21).toInt = 0 from by first | exact oz_96aae3e9d2 e40 e19 e7 g0 i9 | omega), (show (f34 15).toInt = (f 15).toInt from by first | exact oz_e13fc83238 e8 e41 e20 | omega), (show (f34 20).toInt = (f 20).toInt from by first | exact oz_e13fc83238 e9 e42 e21 | omega), (show R_Txp_binary p0 f a f34 a35 from (Or.inl ⟨f1, a2, v4, e11, f13, a14, v16, e23, v26, e28, Or.inl ⟨nc29, v32, e33, f34, a35, e44, rfl, rfl⟩⟩))⟩) d_Txp_binary_37
  · have nc29 : ¬ v26.toInt = (0 : Int) := mt (i_eq (x := v26) (y := 0)).mpr c29
    refine lv_aload_n S.x S.b d_Txp_binary_18 rfl (lv_at hl 2 rfl) ?_
    refine lv_iconst (v := 3) S.x S.b d_Txp_binary_19 (by decide) ?_
    refine lv_iconst (v := 0) S.x S.b d_Txp_binary_20 (by decide) ?_
    first | refine px_callv (pr := []) (px_runU (As := [.int 3, .int 0]) (rest := []) S (c_finish_Txp l D cs h r g hp f13 a14 3 0  (show TxOk (f13 4) (f13 5) (f13 8) (f13 9) (f13 17) (f13 21) (a14 2) from ⟨lk, ⟨i2, i3⟩, ⟨i4, i5⟩, ⟨i6, i7⟩, i8, ⟨i9, i11⟩, i10, hrt⟩) _) hT (pr := []) (pcs := [wd_Txp cs h r (fun k => if k = 3 then (some hp) else none) f13 a14 g]) hw px_X.tt (C := "HomeSystem$TextProcess") (x := ⟨"HomeSystem$TextProcess", "finish", "(II)V"⟩) (px_recv hT hw 0 0 rfl rfl rfl) m8_89 m9_5 m9_6 m8_85 m9_7 m1_33 rfl q_HomeSystem_AnyProcess_finish ⟨Nat.le_of_ble_eq_true rfl, Nat.le_of_ble_eq_true rfl⟩ hl.1 rfl (Nat.le_of_ble_eq_true rfl) d_Txp_binary_21 ⟨Nat.le_of_ble_eq_true rfl, Nat.le_of_ble_eq_true rfl⟩) hw hA (fun p48 H locs hp48 hw => ?_) | refine px_callv (pr := []) (px_runU (As := [.int 3, .int 0]) (rest := []) S (c_finish_Txp l D cs h r g hp f13 a14 3 0  (show TxOk (f13 4) (f13 5) (f13 8) (f13 9) (f13 17) (f13 21) (a14 2) from ⟨lk, ⟨by first | exact i2 | omega, by first | exact i3 | omega⟩, ⟨by first | exact i4 | omega, by first | exact i5 | omega⟩, ⟨by first | exact i6 | omega, by first | exact i7 | omega⟩, by first | exact i8 | omega, ⟨by first | exact i9 | omega, by first | exact i11 | omega⟩, by first | exact i10 | omega, hrt⟩) _) hT (pr := []) (pcs := [wd_Txp cs h r (fun k => if k = 3 then (some hp) else none) f13 a14 g]) hw px_X.tt (C := "HomeSystem$TextProcess") (x := ⟨"HomeSystem$TextProcess", "finish", "(II)V"⟩) (px_recv hT hw 0 0 rfl rfl rfl) m8_89 m9_5 m9_6 m8_85 m9_7 m1_33 rfl q_HomeSystem_AnyProcess_finish ⟨Nat.le_of_ble_eq_true rfl, Nat.le_of_ble_eq_true rfl⟩ hl.1 rfl (Nat.le_of_ble_eq_true rfl) d_Txp_binary_21 ⟨Nat.le_of_ble_eq_true rfl, Nat.le_of_ble_eq_true rfl⟩) hw hA (fun p48 H locs hp48 hw => ?_)
    obtain ⟨f46, a47, rfl, h56, e50, e51, e52, e53, e54, e55⟩ := hp48
    obtain ⟨lk, ⟨i2, i3⟩, ⟨i4, i5⟩, ⟨i6, i7⟩, i8, ⟨i9, i11⟩, i10, hrt⟩ := h56
    have e50 : (f46 9).toInt = (f13 9).toInt := e50
    have e51 : (f46 17).toInt = (f13 17).toInt := e51
    have e52 : (f46 21).toInt = 0 := e52
    have e53 : (f46 15).toInt = (f13 15).toInt := e53
    have e54 : (f46 20).toInt = (f13 20).toInt := e54
    have e55 : R_finish_Txp (3 : Int32) (0 : Int32) f13 a14 f46 a47 := e55
    refine lv_goto (tgt := 37) S.x S.b d_Txp_binary_24 (by decide) ?_
    first | exact px_vret S hr hlk hAe hw (Nat.le_of_ble_eq_true rfl) (Nat.le_of_ble_eq_true rfl) (⟨f46, a47, rfl, (show TxOk (f46 4) (f46 5) (f46 8) (f46 9) (f46 17) (f46 21) (a47 2) from ⟨lk, ⟨i2, i3⟩, ⟨i4, i5⟩, ⟨i6, i7⟩, i8, ⟨i9, i11⟩, i10, hrt⟩), (show (f46 9).toInt = (f 9).toInt from (oz_e13fc83238 e5 e50 e17)), (show (f46 17).toInt = (f 17).toInt from (oz_e13fc83238 e6 e51 e18)), (show (f46 21).toInt = 0 from e52), (show (f46 15).toInt = (f 15).toInt from (oz_e13fc83238 e8 e53 e20)), (show (f46 20).toInt = (f 20).toInt from (oz_e13fc83238 e9 e54 e21)), (show R_Txp_binary p0 f a f46 a47 from (Or.inl ⟨f1, a2, v4, e11, f13, a14, v16, e23, v26, e28, Or.inr ⟨nc29, f46, a47, e55, rfl, rfl⟩⟩))⟩) d_Txp_binary_37 | exact px_vret S hr hlk hAe hw (Nat.le_of_ble_eq_true rfl) (Nat.le_of_ble_eq_true rfl) (⟨f46, a47, rfl, (show TxOk (f46 4) (f46 5) (f46 8) (f46 9) (f46 17) (f46 21) (a47 2) from ⟨lk, ⟨by first | exact i2 | omega, by first | exact i3 | omega⟩, ⟨by first | exact i4 | omega, by first | exact i5 | omega⟩, ⟨by first | exact i6 | omega, by first | exact i7 | omega⟩, by first | exact i8 | omega, ⟨by first | exact i9 | omega, by first | exact i11 | omega⟩, by first | exact i10 | omega, hrt⟩), (show (f46 9).toInt = (f 9).toInt from by first | exact oz_e13fc83238 e5 e50 e17 | omega), (show (f46 17).toInt = (f 17).toInt from by first | exact oz_e13fc83238 e6 e51 e18 | omega), (show (f46 21).toInt = 0 from by first | exact e52 | omega), (show (f46 15).toInt = (f 15).toInt from by first | exact oz_e13fc83238 e8 e53 e20 | omega), (show (f46 20).toInt = (f 20).toInt from by first | exact oz_e13fc83238 e9 e54 e21 | omega), (show R_Txp_binary p0 f a f46 a47 from (Or.inl ⟨f1, a2, v4, e11, f13, a14, v16, e23, v26, e28, Or.inr ⟨nc29, f46, a47, e55, rfl, rfl⟩⟩))⟩) d_Txp_binary_37
abbrev b_Txp_pay : ByteArray := prog_11_method_22_code
def y_Txp_pay : MethodName := ⟨"HomeSystem$TextProcess", "pay", "()Z"⟩
theorem d_Txp_pay_0 : decode b_Txp_pay 0 = .ok (.aload_n 0, 1) := by decide +kernel
theorem d_Txp_pay_1 : decode b_Txp_pay 1 = .ok (.getfield 29, 3) := by decide +kernel
theorem d_Txp_pay_4 : decode b_Txp_pay 4 = .ok (.ifCond .ne 11, 3) := by decide +kernel
theorem d_Txp_pay_7 : decode b_Txp_pay 7 = .ok (.aload_n 0, 1) := by decide +kernel
theorem d_Txp_pay_8 : decode b_Txp_pay 8 = .ok (.iconst 5, 1) := by decide +kernel
theorem d_Txp_pay_9 : decode b_Txp_pay 9 = .ok (.iconst 0, 1) := by decide +kernel
theorem d_Txp_pay_10 : decode b_Txp_pay 10 = .ok (.invokevirtual 105, 3) := by decide +kernel
theorem d_Txp_pay_13 : decode b_Txp_pay 13 = .ok (.iconst 0, 1) := by decide +kernel
theorem d_Txp_pay_14 : decode b_Txp_pay 14 = .ok (.ireturn, 1) := by decide +kernel
theorem d_Txp_pay_15 : decode b_Txp_pay 15 = .ok (.aload_n 0, 1) := by decide +kernel
theorem d_Txp_pay_16 : decode b_Txp_pay 16 = .ok (.dup, 1) := by decide +kernel
theorem d_Txp_pay_17 : decode b_Txp_pay 17 = .ok (.getfield 29, 3) := by decide +kernel
theorem d_Txp_pay_20 : decode b_Txp_pay 20 = .ok (.iconst 1, 1) := by decide +kernel
theorem d_Txp_pay_21 : decode b_Txp_pay 21 = .ok (.isub, 1) := by decide +kernel
theorem d_Txp_pay_22 : decode b_Txp_pay 22 = .ok (.putfield 29, 3) := by decide +kernel
theorem d_Txp_pay_25 : decode b_Txp_pay 25 = .ok (.iconst 1, 1) := by decide +kernel
theorem d_Txp_pay_26 : decode b_Txp_pay 26 = .ok (.ireturn, 1) := by decide +kernel
theorem q_Txp_pay : px_y y_Txp_pay 0 := by unfold px_y; decide +kernel
set_option maxHeartbeats 4000000 in
set_option maxRecDepth 100000 in
theorem c_Txp_pay (l : Launch) (D : va_G) (cs : Nat → ClassId) (h : Nat) (r : Nat → Nat) (g : Nat → Nat → Option Nat) (hp : Nat) (f : Nat → Int32) (a : Nat → Nat → Int32)  (hinv0 : TxOk (f 4) (f 5) (f 8) (f 9) (f 17) (f 21) (a 2)) (g0 : (f 21).toInt = 0) : MetI l y_Txp_pay b_Txp_pay 1 (.boolean) D cs 1 30 (0) (0) [.ref h] [wd_Txp cs h r (fun k => if k = 3 then (some hp) else none) f a g] (fun _ => True) (fun v ps => ∃ (f' : Nat → Int32) (a' : Nat → Nat → Int32), (ps = [wd_Txp cs h r (fun k => if k = 3 then (some hp) else none) f' a' g]) ∧ (TxOk (f' 4) (f' 5) (f' 8) (f' 9) (f' 17) (f' 21) (a' 2)) ∧ (v = 0 ∨ v = 1) ∧ (v.toInt = 1 → (f' 9).toInt = (f 9).toInt - 1) ∧ ((f' 17).toInt = (f 17).toInt) ∧ ((f' 21).toInt = 0) ∧ ((f' 15).toInt = (f 15).toInt) ∧ ((f' 20).toInt = (f 20).toInt) ∧ ((f' 9).toInt ≤ (f 9).toInt) ∧ (R_Txp_pay f a f' a' v)) := by
  refine px_enter (by decide) (Nat.le_of_ble_eq_true rfl) ?_
  intro p e s m below meth c A ls hAe S hr hlk hnm hA hT hX hw hl
  have hl : lv_has ls 1 [(0, .ref h)] := hl
  have cst0 : (0 : Int32).toInt = 0 := rfl
  have cst1 : (1 : Int32).toInt = 1 := rfl
  have cst5 : (5 : Int32).toInt = 5 := rfl
  obtain ⟨lk, ⟨i2, i3⟩, ⟨i4, i5⟩, ⟨i6, i7⟩, i8, ⟨i9, i11⟩, i10, hrt⟩ := hinv0
  refine lv_aload_n S.x S.b d_Txp_pay_0 rfl (lv_at hl 0 rfl) ?_
  refine px_get S k_Txp hT hw 0 0 9 (v := .int (f 9)) rfl rfl rfl (by decide) m6_222 d_Txp_pay_1 ?_
  refine lv_if_ne (tgt := 15) S.x S.b d_Txp_pay_4 (by decide) (fun c1 => ?_) (fun c1 => ?_)
  · have nc1 : ¬ (f 9).toInt = (0 : Int) := mt (i_eq (x := (f 9)) (y := 0)).mpr c1
    refine lv_aload_n S.x S.b d_Txp_pay_15 rfl (lv_at hl 0 rfl) ?_
    refine lv_dup S.x S.b d_Txp_pay_16 rfl ?_
    refine px_get S k_Txp hT hw 0 0 9 (v := .int (f 9)) rfl rfl rfl (by decide) m6_222 d_Txp_pay_17 ?_
    refine lv_iconst (v := 1) S.x S.b d_Txp_pay_20 (by decide) ?_
    refine lv_isub S.x S.b d_Txp_pay_21 ?_
    have lr3 := Int32.le_toInt (f 9)
    have ur3 := Int32.toInt_lt (f 9)
    refine lv_topi (fun z4 ez4 => ?_)
    have tz4 : z4.toInt = ((f 9).toInt - (1 : Int) + 2147483648) % 4294967296 - 2147483648 := by rw [ez4]; exact i_sub (f 9) 1
    have lz4 := Int32.le_toInt z4
    have uz4 := Int32.toInt_lt z4
    try replace tz4 : z4.toInt = (f 9).toInt - (1 : Int) := by omega
    refine px_put S k_Txp hT hw 0 0 9 rfl rfl (by decide) m6_222 rfl rfl rfl (Nat.le_of_ble_eq_true rfl) d_Txp_pay_22 (w' := wd_Txp cs h r (fun k => if k = 3 then (some hp) else none) (upd f 9 z4) a g) (ps' := [wd_Txp cs h r (fun k => if k = 3 then (some hp) else none) (upd f 9 z4) a g]) rfl rfl (fun H locs hw => ?_)
    refine lv_iconst (v := 1) S.x S.b d_Txp_pay_25 (by decide) ?_
    first | exact px_iret (v := 1) S hr rfl hlk hAe hw (Nat.le_of_ble_eq_true rfl) (Nat.le_of_ble_eq_true rfl) (⟨(upd f 9 z4), a, rfl, (show TxOk (f 4) (f 5) (f 8) z4 (f 17) (f 21) (a 2) from ⟨lk, ⟨i2, i3⟩, ⟨i4, i5⟩, ⟨(oz_229fe14250 tz4 i6 nc1), (oz_c2ccfb1ff9 tz4 i7)⟩, i8, ⟨i9, i11⟩, (oz_3c7696f187 i10 tz4), hrt⟩), (show (1 : Int32) = 0 ∨ (1 : Int32) = 1 from by first | exact Or.inl rfl | exact Or.inr rfl | exact z_or (by omega)), (show (1 : Int) = 1 → z4.toInt = (f 9).toInt - 1 from by omega), (show (f 17).toInt = (f 17).toInt from rfl), (show (f 21).toInt = 0 from g0), (show (f 15).toInt = (f 15).toInt from rfl), (show (f 20).toInt = (f 20).toInt from rfl), (show z4.toInt ≤ (f 9).toInt from (oz_143d7f65a4 tz4)), (show R_Txp_pay f a (upd f 9 z4) a (1 : Int32) from (Or.inl (Or.inl ⟨nc1, z4, ez4, rfl, rfl, rfl⟩)))⟩) d_Txp_pay_26 | exact px_iret (v := 1) S hr rfl hlk hAe hw (Nat.le_of_ble_eq_true rfl) (Nat.le_of_ble_eq_true rfl) (⟨(upd f 9 z4), a, rfl, (show TxOk (f 4) (f 5) (f 8) z4 (f 17) (f 21) (a 2) from ⟨lk, ⟨by first | exact i2 | omega, by first | exact i3 | omega⟩, ⟨by first | exact i4 | omega, by first | exact i5 | omega⟩, ⟨by first | exact oz_229fe14250 tz4 i6 nc1 | omega, by first | exact oz_c2ccfb1ff9 tz4 i7 | omega⟩, by first | exact i8 | omega, ⟨by first | exact i9 | omega, by first | exact i11 | omega⟩, by first | exact oz_3c7696f187 i10 tz4 | omega, hrt⟩), (show (1 : Int32) = 0 ∨ (1 : Int32) = 1 from by first | exact Or.inl rfl | exact Or.inr rfl | exact z_or (by omega)), (show (1 : Int) = 1 → z4.toInt = (f 9).toInt - 1 from by omega), (show (f 17).toInt = (f 17).toInt from rfl), (show (f 21).toInt = 0 from by first | exact g0 | omega), (show (f 15).toInt = (f 15).toInt from rfl), (show (f 20).toInt = (f 20).toInt from rfl), (show z4.toInt ≤ (f 9).toInt from by first | exact oz_143d7f65a4 tz4 | omega), (show R_Txp_pay f a (upd f 9 z4) a (1 : Int32) from (Or.inl (Or.inl ⟨nc1, z4, ez4, rfl, rfl, rfl⟩)))⟩) d_Txp_pay_26
  · have nc1 : (f 9).toInt = (0 : Int) := (i_eq (x := (f 9)) (y := 0)).mp c1
    refine lv_aload_n S.x S.b d_Txp_pay_7 rfl (lv_at hl 0 rfl) ?_
    refine lv_iconst (v := 5) S.x S.b d_Txp_pay_8 (by decide) ?_
    refine lv_iconst (v := 0) S.x S.b d_Txp_pay_9 (by decide) ?_
    first | refine px_callv (pr := []) (px_runU (As := [.int 5, .int 0]) (rest := []) S (c_finish_Txp l D cs h r g hp f a 5 0  (show TxOk (f 4) (f 5) (f 8) (f 9) (f 17) (f 21) (a 2) from ⟨lk, ⟨i2, i3⟩, ⟨i4, i5⟩, ⟨i6, i7⟩, i8, ⟨i9, i11⟩, i10, hrt⟩) _) hT (pr := []) (pcs := [wd_Txp cs h r (fun k => if k = 3 then (some hp) else none) f a g]) hw px_X.tt (C := "HomeSystem$TextProcess") (x := ⟨"HomeSystem$TextProcess", "finish", "(II)V"⟩) (px_recv hT hw 0 0 rfl rfl rfl) m8_89 m9_5 m9_6 m8_85 m9_7 m1_33 rfl q_HomeSystem_AnyProcess_finish ⟨Nat.le_of_ble_eq_true rfl, Nat.le_of_ble_eq_true rfl⟩ hl.1 rfl (Nat.le_of_ble_eq_true rfl) d_Txp_pay_10 ⟨Nat.le_of_ble_eq_true rfl, Nat.le_of_ble_eq_true rfl⟩) hw hA (fun p7 H locs hp7 hw => ?_) | refine px_callv (pr := []) (px_runU (As := [.int 5, .int 0]) (rest := []) S (c_finish_Txp l D cs h r g hp f a 5 0  (show TxOk (f 4) (f 5) (f 8) (f 9) (f 17) (f 21) (a 2) from ⟨lk, ⟨by first | exact i2 | omega, by first | exact i3 | omega⟩, ⟨by first | exact i4 | omega, by first | exact i5 | omega⟩, ⟨by first | exact i6 | omega, by first | exact i7 | omega⟩, by first | exact i8 | omega, ⟨by first | exact i9 | omega, by first | exact i11 | omega⟩, by first | exact i10 | omega, hrt⟩) _) hT (pr := []) (pcs := [wd_Txp cs h r (fun k => if k = 3 then (some hp) else none) f a g]) hw px_X.tt (C := "HomeSystem$TextProcess") (x := ⟨"HomeSystem$TextProcess", "finish", "(II)V"⟩) (px_recv hT hw 0 0 rfl rfl rfl) m8_89 m9_5 m9_6 m8_85 m9_7 m1_33 rfl q_HomeSystem_AnyProcess_finish ⟨Nat.le_of_ble_eq_true rfl, Nat.le_of_ble_eq_true rfl⟩ hl.1 rfl (Nat.le_of_ble_eq_true rfl) d_Txp_pay_10 ⟨Nat.le_of_ble_eq_true rfl, Nat.le_of_ble_eq_true rfl⟩) hw hA (fun p7 H locs hp7 hw => ?_)
    obtain ⟨f5, a6, rfl, h15, e9, e10, e11, e12, e13, e14⟩ := hp7
    obtain ⟨lk, ⟨i2, i3⟩, ⟨i4, i5⟩, ⟨i6, i7⟩, i8, ⟨i9, i11⟩, i10, hrt⟩ := h15
    have e9 : (f5 9).toInt = (f 9).toInt := e9
    have e10 : (f5 17).toInt = (f 17).toInt := e10
    have e11 : (f5 21).toInt = 0 := e11
    have e12 : (f5 15).toInt = (f 15).toInt := e12
    have e13 : (f5 20).toInt = (f 20).toInt := e13
    have e14 : R_finish_Txp (5 : Int32) (0 : Int32) f a f5 a6 := e14
    refine lv_iconst (v := 0) S.x S.b d_Txp_pay_13 (by decide) ?_
    first | exact px_iret (v := 0) S hr rfl hlk hAe hw (Nat.le_of_ble_eq_true rfl) (Nat.le_of_ble_eq_true rfl) (⟨f5, a6, rfl, (show TxOk (f5 4) (f5 5) (f5 8) (f5 9) (f5 17) (f5 21) (a6 2) from ⟨lk, ⟨i2, i3⟩, ⟨i4, i5⟩, ⟨i6, i7⟩, i8, ⟨i9, i11⟩, i10, hrt⟩), (show (0 : Int32) = 0 ∨ (0 : Int32) = 1 from by first | exact Or.inl rfl | exact Or.inr rfl | exact z_or (by omega)), (show (0 : Int) = 1 → (f5 9).toInt = (f 9).toInt - 1 from by omega), (show (f5 17).toInt = (f 17).toInt from e10), (show (f5 21).toInt = 0 from e11), (show (f5 15).toInt = (f 15).toInt from e12), (show (f5 20).toInt = (f 20).toInt from e13), (show (f5 9).toInt ≤ (f 9).toInt from (oz_5b5f5658b9 e9)), (show R_Txp_pay f a f5 a6 (0 : Int32) from (Or.inl (Or.inr ⟨nc1, f5, a6, e14, rfl, rfl, rfl⟩)))⟩) d_Txp_pay_14 | exact px_iret (v := 0) S hr rfl hlk hAe hw (Nat.le_of_ble_eq_true rfl) (Nat.le_of_ble_eq_true rfl) (⟨f5, a6, rfl, (show TxOk (f5 4) (f5 5) (f5 8) (f5 9) (f5 17) (f5 21) (a6 2) from ⟨lk, ⟨by first | exact i2 | omega, by first | exact i3 | omega⟩, ⟨by first | exact i4 | omega, by first | exact i5 | omega⟩, ⟨by first | exact i6 | omega, by first | exact i7 | omega⟩, by first | exact i8 | omega, ⟨by first | exact i9 | omega, by first | exact i11 | omega⟩, by first | exact i10 | omega, hrt⟩), (show (0 : Int32) = 0 ∨ (0 : Int32) = 1 from by first | exact Or.inl rfl | exact Or.inr rfl | exact z_or (by omega)), (show (0 : Int) = 1 → (f5 9).toInt = (f 9).toInt - 1 from by omega), (show (f5 17).toInt = (f 17).toInt from by first | exact e10 | omega), (show (f5 21).toInt = 0 from by first | exact e11 | omega), (show (f5 15).toInt = (f 15).toInt from by first | exact e12 | omega), (show (f5 20).toInt = (f 20).toInt from by first | exact e13 | omega), (show (f5 9).toInt ≤ (f 9).toInt from by first | exact oz_5b5f5658b9 e9 | omega), (show R_Txp_pay f a f5 a6 (0 : Int32) from (Or.inl (Or.inr ⟨nc1, f5, a6, e14, rfl, rfl, rfl⟩)))⟩) d_Txp_pay_14
abbrev b_Txp_give : ByteArray := prog_11_method_24_code
def y_Txp_give : MethodName := ⟨"HomeSystem$TextProcess", "give", "()V"⟩
theorem d_Txp_give_0 : decode b_Txp_give 0 = .ok (.aload_n 0, 1) := by decide +kernel
theorem d_Txp_give_1 : decode b_Txp_give 1 = .ok (.getfield 47, 3) := by decide +kernel
theorem d_Txp_give_4 : decode b_Txp_give 4 = .ok (.ifCond .le 13, 3) := by decide +kernel
theorem d_Txp_give_7 : decode b_Txp_give 7 = .ok (.aload_n 0, 1) := by decide +kernel
theorem d_Txp_give_8 : decode b_Txp_give 8 = .ok (.dup, 1) := by decide +kernel
theorem d_Txp_give_9 : decode b_Txp_give 9 = .ok (.getfield 47, 3) := by decide +kernel
theorem d_Txp_give_12 : decode b_Txp_give 12 = .ok (.iconst 1, 1) := by decide +kernel
theorem d_Txp_give_13 : decode b_Txp_give 13 = .ok (.isub, 1) := by decide +kernel
theorem d_Txp_give_14 : decode b_Txp_give 14 = .ok (.putfield 47, 3) := by decide +kernel
theorem d_Txp_give_17 : decode b_Txp_give 17 = .ok (.iconst 3, 1) := by decide +kernel
theorem d_Txp_give_18 : decode b_Txp_give 18 = .ok (.aload_n 0, 1) := by decide +kernel
theorem d_Txp_give_19 : decode b_Txp_give 19 = .ok (.getfield 47, 3) := by decide +kernel
theorem d_Txp_give_22 : decode b_Txp_give 22 = .ok (.imul, 1) := by decide +kernel
theorem d_Txp_give_23 : decode b_Txp_give 23 = .ok (.istore_n 1, 1) := by decide +kernel
theorem d_Txp_give_24 : decode b_Txp_give 24 = .ok (.aload_n 0, 1) := by decide +kernel
theorem d_Txp_give_25 : decode b_Txp_give 25 = .ok (.aload_n 0, 1) := by decide +kernel
theorem d_Txp_give_26 : decode b_Txp_give 26 = .ok (.getfield 18, 3) := by decide +kernel
theorem d_Txp_give_29 : decode b_Txp_give 29 = .ok (.iload_n 1, 1) := by decide +kernel
theorem d_Txp_give_30 : decode b_Txp_give 30 = .ok (.iaload, 1) := by decide +kernel
theorem d_Txp_give_31 : decode b_Txp_give 31 = .ok (.putfield 41, 3) := by decide +kernel
theorem d_Txp_give_34 : decode b_Txp_give 34 = .ok (.aload_n 0, 1) := by decide +kernel
theorem d_Txp_give_35 : decode b_Txp_give 35 = .ok (.aload_n 0, 1) := by decide +kernel
theorem d_Txp_give_36 : decode b_Txp_give 36 = .ok (.getfield 50, 3) := by decide +kernel
theorem d_Txp_give_39 : decode b_Txp_give 39 = .ok (.putfield 53, 3) := by decide +kernel
theorem d_Txp_give_42 : decode b_Txp_give 42 = .ok (.aload_n 0, 1) := by decide +kernel
theorem d_Txp_give_43 : decode b_Txp_give 43 = .ok (.aload_n 0, 1) := by decide +kernel
theorem d_Txp_give_44 : decode b_Txp_give 44 = .ok (.getfield 18, 3) := by decide +kernel
theorem d_Txp_give_47 : decode b_Txp_give 47 = .ok (.iload_n 1, 1) := by decide +kernel
theorem d_Txp_give_48 : decode b_Txp_give 48 = .ok (.iconst 1, 1) := by decide +kernel
theorem d_Txp_give_49 : decode b_Txp_give 49 = .ok (.iadd, 1) := by decide +kernel
theorem d_Txp_give_50 : decode b_Txp_give 50 = .ok (.iaload, 1) := by decide +kernel
theorem d_Txp_give_51 : decode b_Txp_give 51 = .ok (.putfield 50, 3) := by decide +kernel
theorem d_Txp_give_54 : decode b_Txp_give 54 = .ok (.aload_n 0, 1) := by decide +kernel
theorem d_Txp_give_55 : decode b_Txp_give 55 = .ok (.dup, 1) := by decide +kernel
theorem d_Txp_give_56 : decode b_Txp_give 56 = .ok (.getfield 33, 3) := by decide +kernel
theorem d_Txp_give_59 : decode b_Txp_give 59 = .ok (.aload_n 0, 1) := by decide +kernel
theorem d_Txp_give_60 : decode b_Txp_give 60 = .ok (.getfield 18, 3) := by decide +kernel
theorem d_Txp_give_63 : decode b_Txp_give 63 = .ok (.iload_n 1, 1) := by decide +kernel
theorem d_Txp_give_64 : decode b_Txp_give 64 = .ok (.iconst 2, 1) := by decide +kernel
theorem d_Txp_give_65 : decode b_Txp_give 65 = .ok (.iadd, 1) := by decide +kernel
theorem d_Txp_give_66 : decode b_Txp_give 66 = .ok (.iaload, 1) := by decide +kernel
theorem d_Txp_give_67 : decode b_Txp_give 67 = .ok (.iadd, 1) := by decide +kernel
theorem d_Txp_give_68 : decode b_Txp_give 68 = .ok (.putfield 33, 3) := by decide +kernel
theorem d_Txp_give_71 : decode b_Txp_give 71 = .ok (.return_, 1) := by decide +kernel
theorem q_Txp_give : px_y y_Txp_give 0 := by unfold px_y; decide +kernel
set_option maxHeartbeats 4000000 in
set_option maxRecDepth 100000 in
theorem c_Txp_give (l : Launch) (D : va_G) (cs : Nat → ClassId) (h : Nat) (r : Nat → Nat) (g : Nat → Nat → Option Nat) (hp : Nat) (f : Nat → Int32) (a : Nat → Nat → Int32)  (hinv0 : TxOk (f 4) (f 5) (f 8) (f 9) (f 17) (f 21) (a 2)) : MetV l y_Txp_give b_Txp_give 2 D cs 0 0 (0) (0) [.ref h] [wd_Txp cs h r (fun k => if k = 3 then (some hp) else none) f a g] (fun _ => True) (fun ps => ∃ (f' : Nat → Int32) (a' : Nat → Nat → Int32), (ps = [wd_Txp cs h r (fun k => if k = 3 then (some hp) else none) f' a' g]) ∧ (TxOk (f' 4) (f' 5) (f' 8) (f' 9) (f' 17) (f' 21) (a' 2)) ∧ ((f' 9).toInt = (f 9).toInt) ∧ ((f' 17).toInt = (f 17).toInt) ∧ ((f' 21).toInt = (f 21).toInt) ∧ ((f' 15).toInt = (f 15).toInt) ∧ ((f' 20).toInt = (f 20).toInt) ∧ (R_Txp_give f a f' a')) := by
  refine px_enter (by decide) (Nat.le_of_ble_eq_true rfl) ?_
  intro p e s m below meth c A ls hAe S hr hlk hnm hA hT hX hw hl
  have hl : lv_has ls 2 [(0, .ref h)] := hl
  have cst1 : (1 : Int32).toInt = 1 := rfl
  have cst2 : (2 : Int32).toInt = 2 := rfl
  have cst3 : (3 : Int32).toInt = 3 := rfl
  obtain ⟨lk, ⟨i2, i3⟩, ⟨i4, i5⟩, ⟨i6, i7⟩, i8, ⟨i9, i11⟩, i10, hrt⟩ := hinv0
  refine lv_aload_n S.x S.b d_Txp_give_0 rfl (lv_at hl 0 rfl) ?_
  refine px_get S k_Txp hT hw 0 0 8 (v := .int (f 8)) rfl rfl rfl (by decide) m6_221 d_Txp_give_1 ?_
  refine lv_if_le (tgt := 17) S.x S.b d_Txp_give_4 (by decide) (fun c1 => ?_) (fun c1 => ?_)
  · have nc1 : (f 8).toInt ≤ (0 : Int) := (i_le (x := (f 8)) (y := 0)).mp c1
    refine lv_iconst (v := 3) S.x S.b d_Txp_give_17 (by decide) ?_
    refine lv_aload_n S.x S.b d_Txp_give_18 rfl (lv_at hl 0 rfl) ?_
    refine px_get S k_Txp hT hw 0 0 8 (v := .int (f 8)) rfl rfl rfl (by decide) m6_221 d_Txp_give_19 ?_
    refine lv_imul S.x S.b d_Txp_give_22 ?_
    have lr3 := Int32.le_toInt (f 8)
    have ur3 := Int32.toInt_lt (f 8)
    refine lv_topi (fun z4 ez4 => ?_)
    have lz4 := Int32.le_toInt z4
    have uz4 := Int32.toInt_lt z4
    have tz4 : -2147483648 ≤ 3 * (f 8).toInt → 3 * (f 8).toInt < 2147483648 → z4.toInt = 3 * (f 8).toInt := by rw [ez4]; exact i_mulc 3 (f 8) (by decide)
    try replace tz4 : z4.toInt = 3 * (f 8).toInt := by omega
    refine lv_istore_n (lv' := [(1, .int z4), (0, .ref h)]) S.x S.b d_Txp_give_23 rfl hl (by decide) rfl (fun ls hl => ?_)
    refine lv_aload_n S.x S.b d_Txp_give_24 rfl (lv_at hl 1 rfl) ?_
    refine lv_aload_n S.x S.b d_Txp_give_25 rfl (lv_at hl 1 rfl) ?_
    refine px_get S k_Txp hT hw 0 0 2 (v := .ref (r 2)) rfl rfl rfl (by decide) m6_215 d_Txp_give_26 ?_
    refine lv_iload_n S.x S.b d_Txp_give_29 rfl (lv_at hl 0 rfl) ?_
    refine px_iald S hT hw 0 3 (n := 303) (f := (a 2)) rfl (ga_Txp_2 _ _ _ _ _ _ _) (x := z4) (vp_in_iff.mpr (by first | exact oz_a485ce6081 tz4 i4 nc1 | (constructor <;> omega))) d_Txp_give_30 ?_
    refine lv_topi (fun z5 ez5 => ?_)
    have lz5 := Int32.le_toInt z5
    have uz5 := Int32.toInt_lt z5
    have hpc := rt_at hrt (x := z4) (d := (f 8)) (by omega) (by omega) ez5
    refine px_put S k_Txp hT hw 0 0 4 rfl rfl (by decide) m6_217 rfl rfl rfl (Nat.le_of_ble_eq_true rfl) d_Txp_give_31 (w' := wd_Txp cs h r (fun k => if k = 3 then (some hp) else none) (upd f 4 z5) a g) (ps' := [wd_Txp cs h r (fun k => if k = 3 then (some hp) else none) (upd f 4 z5) a g]) rfl rfl (fun H locs hw => ?_)
    refine lv_aload_n S.x S.b d_Txp_give_34 rfl (lv_at hl 1 rfl) ?_
    refine lv_aload_n S.x S.b d_Txp_give_35 rfl (lv_at hl 1 rfl) ?_
    refine px_get S k_Txp hT hw 0 0 6 (v := .int (f 6)) rfl rfl rfl (by decide) m6_219 d_Txp_give_36 ?_
    refine px_put S k_Txp hT hw 0 0 7 rfl rfl (by decide) m6_220 rfl rfl rfl (Nat.le_of_ble_eq_true rfl) d_Txp_give_39 (w' := wd_Txp cs h r (fun k => if k = 3 then (some hp) else none) (upd (upd f 4 z5) 7 (f 6)) a g) (ps' := [wd_Txp cs h r (fun k => if k = 3 then (some hp) else none) (upd (upd f 4 z5) 7 (f 6)) a g]) rfl rfl (fun H locs hw => ?_)
    refine lv_aload_n S.x S.b d_Txp_give_42 rfl (lv_at hl 1 rfl) ?_
    refine lv_aload_n S.x S.b d_Txp_give_43 rfl (lv_at hl 1 rfl) ?_
    refine px_get S k_Txp hT hw 0 0 2 (v := .ref (r 2)) rfl rfl rfl (by decide) m6_215 d_Txp_give_44 ?_
    refine lv_iload_n S.x S.b d_Txp_give_47 rfl (lv_at hl 0 rfl) ?_
    refine lv_iconst (v := 1) S.x S.b d_Txp_give_48 (by decide) ?_
    refine lv_iadd S.x S.b d_Txp_give_49 ?_
    refine lv_topi (fun z6 ez6 => ?_)
    have tz6 : z6.toInt = (z4.toInt + (1 : Int) + 2147483648) % 4294967296 - 2147483648 := by rw [ez6]; exact i_add z4 1
    have lz6 := Int32.le_toInt z6
    have uz6 := Int32.toInt_lt z6
    try replace tz6 : z6.toInt = z4.toInt + (1 : Int) := by omega
    refine px_iald S hT hw 0 3 (n := 303) (f := (a 2)) rfl (ga_Txp_2 _ _ _ _ _ _ _) (x := z6) (vp_in_iff.mpr (by first | exact oz_be54272558 tz6 tz4 i4 nc1 | (constructor <;> omega))) d_Txp_give_50 ?_
    refine lv_topi (fun z7 ez7 => ?_)
    have lz7 := Int32.le_toInt z7
    have uz7 := Int32.toInt_lt z7
    refine px_put S k_Txp hT hw 0 0 6 rfl rfl (by decide) m6_219 rfl rfl rfl (Nat.le_of_ble_eq_true rfl) d_Txp_give_51 (w' := wd_Txp cs h r (fun k => if k = 3 then (some hp) else none) (upd (upd (upd f 4 z5) 6 z7) 7 (f 6)) a g) (ps' := [wd_Txp cs h r (fun k => if k = 3 then (some hp) else none) (upd (upd (upd f 4 z5) 6 z7) 7 (f 6)) a g]) rfl rfl (fun H locs hw => ?_)
    refine lv_aload_n S.x S.b d_Txp_give_54 rfl (lv_at hl 1 rfl) ?_
    refine lv_dup S.x S.b d_Txp_give_55 rfl ?_
    refine px_get S k_Txp hT hw 0 0 10 (v := .int (f 10)) rfl rfl rfl (by decide) m6_223 d_Txp_give_56 ?_
    refine lv_aload_n S.x S.b d_Txp_give_59 rfl (lv_at hl 1 rfl) ?_
    refine px_get S k_Txp hT hw 0 0 2 (v := .ref (r 2)) rfl rfl rfl (by decide) m6_215 d_Txp_give_60 ?_
    refine lv_iload_n S.x S.b d_Txp_give_63 rfl (lv_at hl 0 rfl) ?_
    refine lv_iconst (v := 2) S.x S.b d_Txp_give_64 (by decide) ?_
    refine lv_iadd S.x S.b d_Txp_give_65 ?_
    refine lv_topi (fun z8 ez8 => ?_)
    have tz8 : z8.toInt = (z4.toInt + (2 : Int) + 2147483648) % 4294967296 - 2147483648 := by rw [ez8]; exact i_add z4 2
    have lz8 := Int32.le_toInt z8
    have uz8 := Int32.toInt_lt z8
    try replace tz8 : z8.toInt = z4.toInt + (2 : Int) := by omega
    refine px_iald S hT hw 0 3 (n := 303) (f := (a 2)) rfl (ga_Txp_2 _ _ _ _ _ _ _) (x := z8) (vp_in_iff.mpr (by first | exact oz_e9c1072bd1 tz8 tz4 i4 nc1 | (constructor <;> omega))) d_Txp_give_66 ?_
    refine lv_topi (fun z9 ez9 => ?_)
    have lz9 := Int32.le_toInt z9
    have uz9 := Int32.toInt_lt z9
    refine lv_iadd S.x S.b d_Txp_give_67 ?_
    have lr10 := Int32.le_toInt (f 10)
    have ur10 := Int32.toInt_lt (f 10)
    refine lv_topi (fun z11 ez11 => ?_)
    have tz11 : z11.toInt = ((f 10).toInt + z9.toInt + 2147483648) % 4294967296 - 2147483648 := by rw [ez11]; exact i_add (f 10) z9
    have lz11 := Int32.le_toInt z11
    have uz11 := Int32.toInt_lt z11
    try replace tz11 : z11.toInt = (f 10).toInt + z9.toInt := by omega
    refine px_put S k_Txp hT hw 0 0 10 rfl rfl (by decide) m6_223 rfl rfl rfl (Nat.le_of_ble_eq_true rfl) d_Txp_give_68 (w' := wd_Txp cs h r (fun k => if k = 3 then (some hp) else none) (upd (upd (upd (upd f 4 z5) 6 z7) 7 (f 6)) 10 z11) a g) (ps' := [wd_Txp cs h r (fun k => if k = 3 then (some hp) else none) (upd (upd (upd (upd f 4 z5) 6 z7) 7 (f 6)) 10 z11) a g]) rfl rfl (fun H locs hw => ?_)
    first | exact px_vret S hr hlk hAe hw (Nat.le_of_ble_eq_true rfl) (Nat.le_of_ble_eq_true rfl) (⟨(upd (upd (upd (upd f 4 z5) 6 z7) 7 (f 6)) 10 z11), a, rfl, (show TxOk z5 (f 5) (f 8) (f 9) (f 17) (f 21) (a 2) from ⟨hpc, ⟨i2, i3⟩, ⟨i4, i5⟩, ⟨i6, i7⟩, i8, ⟨i9, i11⟩, i10, hrt⟩), (show (f 9).toInt = (f 9).toInt from rfl), (show (f 17).toInt = (f 17).toInt from rfl), (show (f 21).toInt = (f 21).toInt from rfl), (show (f 15).toInt = (f 15).toInt from rfl), (show (f 20).toInt = (f 20).toInt from rfl), (show R_Txp_give f a (upd (upd (upd (upd f 4 z5) 6 z7) 7 (f 6)) 10 z11) a from (Or.inl (Or.inl ⟨nc1, z4, ez4, z5, ez5, z6, ez6, z7, ez7, z8, ez8, z9, ez9, z11, ez11, rfl, rfl⟩)))⟩) d_Txp_give_71 | exact px_vret S hr hlk hAe hw (Nat.le_of_ble_eq_true rfl) (Nat.le_of_ble_eq_true rfl) (⟨(upd (upd (upd (upd f 4 z5) 6 z7) 7 (f 6)) 10 z11), a, rfl, (show TxOk z5 (f 5) (f 8) (f 9) (f 17) (f 21) (a 2) from ⟨hpc, ⟨by first | exact i2 | omega, by first | exact i3 | omega⟩, ⟨by first | exact i4 | omega, by first | exact i5 | omega⟩, ⟨by first | exact i6 | omega, by first | exact i7 | omega⟩, by first | exact i8 | omega, ⟨by first | exact i9 | omega, by first | exact i11 | omega⟩, by first | exact i10 | omega, hrt⟩), (show (f 9).toInt = (f 9).toInt from rfl), (show (f 17).toInt = (f 17).toInt from rfl), (show (f 21).toInt = (f 21).toInt from rfl), (show (f 15).toInt = (f 15).toInt from rfl), (show (f 20).toInt = (f 20).toInt from rfl), (show R_Txp_give f a (upd (upd (upd (upd f 4 z5) 6 z7) 7 (f 6)) 10 z11) a from (Or.inl (Or.inl ⟨nc1, z4, ez4, z5, ez5, z6, ez6, z7, ez7, z8, ez8, z9, ez9, z11, ez11, rfl, rfl⟩)))⟩) d_Txp_give_71
  · have nc1 : ¬ (f 8).toInt ≤ (0 : Int) := mt (i_le (x := (f 8)) (y := 0)).mpr c1
    refine lv_aload_n S.x S.b d_Txp_give_7 rfl (lv_at hl 0 rfl) ?_
    refine lv_dup S.x S.b d_Txp_give_8 rfl ?_
    refine px_get S k_Txp hT hw 0 0 8 (v := .int (f 8)) rfl rfl rfl (by decide) m6_221 d_Txp_give_9 ?_
    refine lv_iconst (v := 1) S.x S.b d_Txp_give_12 (by decide) ?_
    refine lv_isub S.x S.b d_Txp_give_13 ?_
    have lr12 := Int32.le_toInt (f 8)
    have ur12 := Int32.toInt_lt (f 8)
    refine lv_topi (fun z13 ez13 => ?_)
    have tz13 : z13.toInt = ((f 8).toInt - (1 : Int) + 2147483648) % 4294967296 - 2147483648 := by rw [ez13]; exact i_sub (f 8) 1
    have lz13 := Int32.le_toInt z13
    have uz13 := Int32.toInt_lt z13
    try replace tz13 : z13.toInt = (f 8).toInt - (1 : Int) := by omega
    refine px_put S k_Txp hT hw 0 0 8 rfl rfl (by decide) m6_221 rfl rfl rfl (Nat.le_of_ble_eq_true rfl) d_Txp_give_14 (w' := wd_Txp cs h r (fun k => if k = 3 then (some hp) else none) (upd f 8 z13) a g) (ps' := [wd_Txp cs h r (fun k => if k = 3 then (some hp) else none) (upd f 8 z13) a g]) rfl rfl (fun H locs hw => ?_)
    refine lv_iconst (v := 3) S.x S.b d_Txp_give_17 (by decide) ?_
    refine lv_aload_n S.x S.b d_Txp_give_18 rfl (lv_at hl 0 rfl) ?_
    refine px_get S k_Txp hT hw 0 0 8 (v := .int z13) rfl rfl rfl (by decide) m6_221 d_Txp_give_19 ?_
    refine lv_imul S.x S.b d_Txp_give_22 ?_
    refine lv_topi (fun z14 ez14 => ?_)
    have lz14 := Int32.le_toInt z14
    have uz14 := Int32.toInt_lt z14
    have tz14 : -2147483648 ≤ 3 * z13.toInt → 3 * z13.toInt < 2147483648 → z14.toInt = 3 * z13.toInt := by rw [ez14]; exact i_mulc 3 z13 (by decide)
    try replace tz14 : z14.toInt = 3 * z13.toInt := by omega
    refine lv_istore_n (lv' := [(1, .int z14), (0, .ref h)]) S.x S.b d_Txp_give_23 rfl hl (by decide) rfl (fun ls hl => ?_)
    refine lv_aload_n S.x S.b d_Txp_give_24 rfl (lv_at hl 1 rfl) ?_
    refine lv_aload_n S.x S.b d_Txp_give_25 rfl (lv_at hl 1 rfl) ?_
    refine px_get S k_Txp hT hw 0 0 2 (v := .ref (r 2)) rfl rfl rfl (by decide) m6_215 d_Txp_give_26 ?_
    refine lv_iload_n S.x S.b d_Txp_give_29 rfl (lv_at hl 0 rfl) ?_
    refine px_iald S hT hw 0 3 (n := 303) (f := (a 2)) rfl (ga_Txp_2 _ _ _ _ _ _ _) (x := z14) (vp_in_iff.mpr (by first | exact oz_1e53113f2d tz14 tz13 nc1 i5 | (constructor <;> omega))) d_Txp_give_30 ?_
    refine lv_topi (fun z15 ez15 => ?_)
    have lz15 := Int32.le_toInt z15
    have uz15 := Int32.toInt_lt z15
    have hpc := rt_at hrt (x := z14) (d := z13) (by omega) (by omega) ez15
    refine px_put S k_Txp hT hw 0 0 4 rfl rfl (by decide) m6_217 rfl rfl rfl (Nat.le_of_ble_eq_true rfl) d_Txp_give_31 (w' := wd_Txp cs h r (fun k => if k = 3 then (some hp) else none) (upd (upd f 4 z15) 8 z13) a g) (ps' := [wd_Txp cs h r (fun k => if k = 3 then (some hp) else none) (upd (upd f 4 z15) 8 z13) a g]) rfl rfl (fun H locs hw => ?_)
    refine lv_aload_n S.x S.b d_Txp_give_34 rfl (lv_at hl 1 rfl) ?_
    refine lv_aload_n S.x S.b d_Txp_give_35 rfl (lv_at hl 1 rfl) ?_
    refine px_get S k_Txp hT hw 0 0 6 (v := .int (f 6)) rfl rfl rfl (by decide) m6_219 d_Txp_give_36 ?_
    refine px_put S k_Txp hT hw 0 0 7 rfl rfl (by decide) m6_220 rfl rfl rfl (Nat.le_of_ble_eq_true rfl) d_Txp_give_39 (w' := wd_Txp cs h r (fun k => if k = 3 then (some hp) else none) (upd (upd (upd f 4 z15) 7 (f 6)) 8 z13) a g) (ps' := [wd_Txp cs h r (fun k => if k = 3 then (some hp) else none) (upd (upd (upd f 4 z15) 7 (f 6)) 8 z13) a g]) rfl rfl (fun H locs hw => ?_)
    refine lv_aload_n S.x S.b d_Txp_give_42 rfl (lv_at hl 1 rfl) ?_
    refine lv_aload_n S.x S.b d_Txp_give_43 rfl (lv_at hl 1 rfl) ?_
    refine px_get S k_Txp hT hw 0 0 2 (v := .ref (r 2)) rfl rfl rfl (by decide) m6_215 d_Txp_give_44 ?_
    refine lv_iload_n S.x S.b d_Txp_give_47 rfl (lv_at hl 0 rfl) ?_
    refine lv_iconst (v := 1) S.x S.b d_Txp_give_48 (by decide) ?_
    refine lv_iadd S.x S.b d_Txp_give_49 ?_
    refine lv_topi (fun z16 ez16 => ?_)
    have tz16 : z16.toInt = (z14.toInt + (1 : Int) + 2147483648) % 4294967296 - 2147483648 := by rw [ez16]; exact i_add z14 1
    have lz16 := Int32.le_toInt z16
    have uz16 := Int32.toInt_lt z16
    try replace tz16 : z16.toInt = z14.toInt + (1 : Int) := by omega
    refine px_iald S hT hw 0 3 (n := 303) (f := (a 2)) rfl (ga_Txp_2 _ _ _ _ _ _ _) (x := z16) (vp_in_iff.mpr (by first | exact oz_1971fd3488 tz16 tz14 tz13 nc1 i5 | (constructor <;> omega))) d_Txp_give_50 ?_
    refine lv_topi (fun z17 ez17 => ?_)
    have lz17 := Int32.le_toInt z17
    have uz17 := Int32.toInt_lt z17
    refine px_put S k_Txp hT hw 0 0 6 rfl rfl (by decide) m6_219 rfl rfl rfl (Nat.le_of_ble_eq_true rfl) d_Txp_give_51 (w' := wd_Txp cs h r (fun k => if k = 3 then (some hp) else none) (upd (upd (upd (upd f 4 z15) 6 z17) 7 (f 6)) 8 z13) a g) (ps' := [wd_Txp cs h r (fun k => if k = 3 then (some hp) else none) (upd (upd (upd (upd f 4 z15) 6 z17) 7 (f 6)) 8 z13) a g]) rfl rfl (fun H locs hw => ?_)
    refine lv_aload_n S.x S.b d_Txp_give_54 rfl (lv_at hl 1 rfl) ?_
    refine lv_dup S.x S.b d_Txp_give_55 rfl ?_
    refine px_get S k_Txp hT hw 0 0 10 (v := .int (f 10)) rfl rfl rfl (by decide) m6_223 d_Txp_give_56 ?_
    refine lv_aload_n S.x S.b d_Txp_give_59 rfl (lv_at hl 1 rfl) ?_
    refine px_get S k_Txp hT hw 0 0 2 (v := .ref (r 2)) rfl rfl rfl (by decide) m6_215 d_Txp_give_60 ?_
    refine lv_iload_n S.x S.b d_Txp_give_63 rfl (lv_at hl 0 rfl) ?_
    refine lv_iconst (v := 2) S.x S.b d_Txp_give_64 (by decide) ?_
    refine lv_iadd S.x S.b d_Txp_give_65 ?_
    refine lv_topi (fun z18 ez18 => ?_)
    have tz18 : z18.toInt = (z14.toInt + (2 : Int) + 2147483648) % 4294967296 - 2147483648 := by rw [ez18]; exact i_add z14 2
    have lz18 := Int32.le_toInt z18
    have uz18 := Int32.toInt_lt z18
    try replace tz18 : z18.toInt = z14.toInt + (2 : Int) := by omega
    refine px_iald S hT hw 0 3 (n := 303) (f := (a 2)) rfl (ga_Txp_2 _ _ _ _ _ _ _) (x := z18) (vp_in_iff.mpr (by first | exact oz_4e6e9131e1 tz18 tz14 tz13 nc1 i5 | (constructor <;> omega))) d_Txp_give_66 ?_
    refine lv_topi (fun z19 ez19 => ?_)
    have lz19 := Int32.le_toInt z19
    have uz19 := Int32.toInt_lt z19
    refine lv_iadd S.x S.b d_Txp_give_67 ?_
    have lr20 := Int32.le_toInt (f 10)
    have ur20 := Int32.toInt_lt (f 10)
    refine lv_topi (fun z21 ez21 => ?_)
    have tz21 : z21.toInt = ((f 10).toInt + z19.toInt + 2147483648) % 4294967296 - 2147483648 := by rw [ez21]; exact i_add (f 10) z19
    have lz21 := Int32.le_toInt z21
    have uz21 := Int32.toInt_lt z21
    try replace tz21 : z21.toInt = (f 10).toInt + z19.toInt := by omega
    refine px_put S k_Txp hT hw 0 0 10 rfl rfl (by decide) m6_223 rfl rfl rfl (Nat.le_of_ble_eq_true rfl) d_Txp_give_68 (w' := wd_Txp cs h r (fun k => if k = 3 then (some hp) else none) (upd (upd (upd (upd (upd f 4 z15) 6 z17) 7 (f 6)) 8 z13) 10 z21) a g) (ps' := [wd_Txp cs h r (fun k => if k = 3 then (some hp) else none) (upd (upd (upd (upd (upd f 4 z15) 6 z17) 7 (f 6)) 8 z13) 10 z21) a g]) rfl rfl (fun H locs hw => ?_)
    first | exact px_vret S hr hlk hAe hw (Nat.le_of_ble_eq_true rfl) (Nat.le_of_ble_eq_true rfl) (⟨(upd (upd (upd (upd (upd f 4 z15) 6 z17) 7 (f 6)) 8 z13) 10 z21), a, rfl, (show TxOk z15 (f 5) z13 (f 9) (f 17) (f 21) (a 2) from ⟨hpc, ⟨i2, i3⟩, ⟨(oz_45420e1a93 tz13 nc1), (oz_ecd2116815 tz13 i5)⟩, ⟨i6, i7⟩, i8, ⟨i9, i11⟩, i10, hrt⟩), (show (f 9).toInt = (f 9).toInt from rfl), (show (f 17).toInt = (f 17).toInt from rfl), (show (f 21).toInt = (f 21).toInt from rfl), (show (f 15).toInt = (f 15).toInt from rfl), (show (f 20).toInt = (f 20).toInt from rfl), (show R_Txp_give f a (upd (upd (upd (upd (upd f 4 z15) 6 z17) 7 (f 6)) 8 z13) 10 z21) a from (Or.inl (Or.inr ⟨nc1, z13, ez13, z14, ez14, z15, ez15, z16, ez16, z17, ez17, z18, ez18, z19, ez19, z21, ez21, rfl, rfl⟩)))⟩) d_Txp_give_71 | exact px_vret S hr hlk hAe hw (Nat.le_of_ble_eq_true rfl) (Nat.le_of_ble_eq_true rfl) (⟨(upd (upd (upd (upd (upd f 4 z15) 6 z17) 7 (f 6)) 8 z13) 10 z21), a, rfl, (show TxOk z15 (f 5) z13 (f 9) (f 17) (f 21) (a 2) from ⟨hpc, ⟨by first | exact i2 | omega, by first | exact i3 | omega⟩, ⟨by first | exact oz_45420e1a93 tz13 nc1 | omega, by first | exact oz_ecd2116815 tz13 i5 | omega⟩, ⟨by first | exact i6 | omega, by first | exact i7 | omega⟩, by first | exact i8 | omega, ⟨by first | exact i9 | omega, by first | exact i11 | omega⟩, by first | exact i10 | omega, hrt⟩), (show (f 9).toInt = (f 9).toInt from rfl), (show (f 17).toInt = (f 17).toInt from rfl), (show (f 21).toInt = (f 21).toInt from rfl), (show (f 15).toInt = (f 15).toInt from rfl), (show (f 20).toInt = (f 20).toInt from rfl), (show R_Txp_give f a (upd (upd (upd (upd (upd f 4 z15) 6 z17) 7 (f 6)) 8 z13) 10 z21) a from (Or.inl (Or.inr ⟨nc1, z13, ez13, z14, ez14, z15, ez15, z16, ez16, z17, ez17, z18, ez18, z19, ez19, z21, ez21, rfl, rfl⟩)))⟩) d_Txp_give_71
abbrev b_Txp_ask : ByteArray := prog_11_method_25_code
def y_Txp_ask : MethodName := ⟨"HomeSystem$TextProcess", "ask", "(I)V"⟩
theorem d_Txp_ask_0 : decode b_Txp_ask 0 = .ok (.iload_n 1, 1) := by decide +kernel
theorem d_Txp_ask_1 : decode b_Txp_ask 1 = .ok (.bipush 7, 2) := by decide +kernel
theorem d_Txp_ask_3 : decode b_Txp_ask 3 = .ok (.if_icmp .eq 9, 3) := by decide +kernel
theorem d_Txp_ask_6 : decode b_Txp_ask 6 = .ok (.iload_n 1, 1) := by decide +kernel
theorem d_Txp_ask_7 : decode b_Txp_ask 7 = .ok (.bipush 8, 2) := by decide +kernel
theorem d_Txp_ask_9 : decode b_Txp_ask 9 = .ok (.if_icmp .ne 22, 3) := by decide +kernel
theorem d_Txp_ask_12 : decode b_Txp_ask 12 = .ok (.aload_n 0, 1) := by decide +kernel
theorem d_Txp_ask_13 : decode b_Txp_ask 13 = .ok (.aload_n 0, 1) := by decide +kernel
theorem d_Txp_ask_14 : decode b_Txp_ask 14 = .ok (.invokevirtual 119, 3) := by decide +kernel
theorem d_Txp_ask_17 : decode b_Txp_ask 17 = .ok (.putfield 88, 3) := by decide +kernel
theorem d_Txp_ask_20 : decode b_Txp_ask 20 = .ok (.aload_n 0, 1) := by decide +kernel
theorem d_Txp_ask_21 : decode b_Txp_ask 21 = .ok (.aload_n 0, 1) := by decide +kernel
theorem d_Txp_ask_22 : decode b_Txp_ask 22 = .ok (.invokevirtual 119, 3) := by decide +kernel
theorem d_Txp_ask_25 : decode b_Txp_ask 25 = .ok (.putfield 91, 3) := by decide +kernel
theorem d_Txp_ask_28 : decode b_Txp_ask 28 = .ok (.goto 21, 3) := by decide +kernel
theorem d_Txp_ask_31 : decode b_Txp_ask 31 = .ok (.iload_n 1, 1) := by decide +kernel
theorem d_Txp_ask_32 : decode b_Txp_ask 32 = .ok (.iconst 2, 1) := by decide +kernel
theorem d_Txp_ask_33 : decode b_Txp_ask 33 = .ok (.if_icmp .eq 8, 3) := by decide +kernel
theorem d_Txp_ask_36 : decode b_Txp_ask 36 = .ok (.iload_n 1, 1) := by decide +kernel
theorem d_Txp_ask_37 : decode b_Txp_ask 37 = .ok (.iconst 5, 1) := by decide +kernel
theorem d_Txp_ask_38 : decode b_Txp_ask 38 = .ok (.if_icmp .ne 11, 3) := by decide +kernel
theorem d_Txp_ask_41 : decode b_Txp_ask 41 = .ok (.aload_n 0, 1) := by decide +kernel
theorem d_Txp_ask_42 : decode b_Txp_ask 42 = .ok (.aload_n 0, 1) := by decide +kernel
theorem d_Txp_ask_43 : decode b_Txp_ask 43 = .ok (.invokevirtual 119, 3) := by decide +kernel
theorem d_Txp_ask_46 : decode b_Txp_ask 46 = .ok (.putfield 174, 3) := by decide +kernel
theorem d_Txp_ask_49 : decode b_Txp_ask 49 = .ok (.aload_n 0, 1) := by decide +kernel
theorem d_Txp_ask_50 : decode b_Txp_ask 50 = .ok (.aload_n 0, 1) := by decide +kernel
theorem d_Txp_ask_51 : decode b_Txp_ask 51 = .ok (.invokevirtual 119, 3) := by decide +kernel
theorem d_Txp_ask_54 : decode b_Txp_ask 54 = .ok (.putfield 177, 3) := by decide +kernel
theorem d_Txp_ask_57 : decode b_Txp_ask 57 = .ok (.aload_n 0, 1) := by decide +kernel
theorem d_Txp_ask_58 : decode b_Txp_ask 58 = .ok (.iload_n 1, 1) := by decide +kernel
theorem d_Txp_ask_59 : decode b_Txp_ask 59 = .ok (.putfield 180, 3) := by decide +kernel
theorem d_Txp_ask_62 : decode b_Txp_ask 62 = .ok (.aload_n 0, 1) := by decide +kernel
theorem d_Txp_ask_63 : decode b_Txp_ask 63 = .ok (.iconst 1, 1) := by decide +kernel
theorem d_Txp_ask_64 : decode b_Txp_ask 64 = .ok (.putfield 81, 3) := by decide +kernel
theorem d_Txp_ask_67 : decode b_Txp_ask 67 = .ok (.return_, 1) := by decide +kernel
theorem q_Txp_ask : px_y y_Txp_ask 1 := by unfold px_y; decide +kernel
set_option maxHeartbeats 4000000 in
set_option maxRecDepth 100000 in
theorem c_Txp_ask (l : Launch) (D : va_G) (cs : Nat → ClassId) (h : Nat) (r : Nat → Nat) (g : Nat → Nat → Option Nat) (hp : Nat) (f : Nat → Int32) (a : Nat → Nat → Int32) (p0 : Int32)  (hinv0 : TxOk (f 4) (f 5) (f 8) (f 9) (f 17) (f 21) (a 2)) (g0 : (f 21).toInt = 0) (g1 : (f 17).toInt + (f 9).toInt ≤ 99) : MetV l y_Txp_ask b_Txp_ask 2 D cs 1 30 (0) (0) [.ref h, .int p0] [wd_Txp cs h r (fun k => if k = 3 then (some hp) else none) f a g] (fun _ => True) (fun ps => ∃ (f' : Nat → Int32) (a' : Nat → Nat → Int32), (ps = [wd_Txp cs h r (fun k => if k = 3 then (some hp) else none) f' a' g]) ∧ (TxOk (f' 4) (f' 5) (f' 8) (f' 9) (f' 17) (f' 21) (a' 2)) ∧ ((f' 9).toInt = (f 9).toInt) ∧ ((f' 17).toInt = (f 17).toInt) ∧ ((f' 21).toInt = 1) ∧ ((f' 15).toInt = (f 15).toInt) ∧ ((f' 20).toInt = (f 20).toInt) ∧ (R_Txp_ask p0 f a f' a')) := by
  refine px_enter (by decide) (Nat.le_of_ble_eq_true rfl) ?_
  intro p e s m below meth c A ls hAe S hr hlk hnm hA hT hX hw hl
  have hl : lv_has ls 2 [(0, .ref h), (1, .int p0)] := hl
  have lp0 := Int32.le_toInt p0
  have up0 := Int32.toInt_lt p0
  have cst1 : (1 : Int32).toInt = 1 := rfl
  have cst2 : (2 : Int32).toInt = 2 := rfl
  have cst5 : (5 : Int32).toInt = 5 := rfl
  have cst7 : (7 : Int32).toInt = 7 := rfl
  have cst8 : (8 : Int32).toInt = 8 := rfl
  obtain ⟨lk, ⟨i2, i3⟩, ⟨i4, i5⟩, ⟨i6, i7⟩, i8, ⟨i9, i11⟩, i10, hrt⟩ := hinv0
  refine lv_iload_n S.x S.b d_Txp_ask_0 rfl (lv_at hl 1 rfl) ?_
  refine lv_bipush (v := 7) S.x S.b d_Txp_ask_1 (by decide) ?_
  refine lv_icmp_eq (tgt := 12) S.x S.b d_Txp_ask_3 (by decide) (fun c1 => ?_) (fun c1 => ?_)
  · have nc1 : p0.toInt = (7 : Int) := (i_eq (x := p0) (y := 7)).mp c1
    refine lv_aload_n S.x S.b d_Txp_ask_12 rfl (lv_at hl 0 rfl) ?_
    refine lv_aload_n S.x S.b d_Txp_ask_13 rfl (lv_at hl 0 rfl) ?_
    first | refine px_calli (pr := []) (px_runV (As := []) (rest := [.ref h]) S (c_Txp_pop l D cs h r g hp f a   (show TxOk (f 4) (f 5) (f 8) (f 9) (f 17) (f 21) (a 2) from ⟨lk, ⟨i2, i3⟩, ⟨i4, i5⟩, ⟨i6, i7⟩, i8, ⟨i9, i11⟩, i10, hrt⟩) _) hT (pr := []) (pcs := [wd_Txp cs h r (fun k => if k = 3 then (some hp) else none) f a g]) hw px_X.tt (px_recv hT hw 0 0 rfl rfl rfl) m9_15 m9_12 m9_14 ms_7_0 m1_35 q_Txp_pop ⟨Nat.le_of_ble_eq_true rfl, Nat.le_of_ble_eq_true rfl⟩ hl.1 rfl (Nat.le_of_ble_eq_true rfl) d_Txp_ask_14 ⟨Nat.le_of_ble_eq_true rfl, Nat.le_of_ble_eq_true rfl⟩) hw hA (fun v6 p5 H locs hp5 hw => ?_) | refine px_calli (pr := []) (px_runV (As := []) (rest := [.ref h]) S (c_Txp_pop l D cs h r g hp f a   (show TxOk (f 4) (f 5) (f 8) (f 9) (f 17) (f 21) (a 2) from ⟨lk, ⟨by first | exact i2 | omega, by first | exact i3 | omega⟩, ⟨by first | exact i4 | omega, by first | exact i5 | omega⟩, ⟨by first | exact i6 | omega, by first | exact i7 | omega⟩, by first | exact i8 | omega, ⟨by first | exact i9 | omega, by first | exact i11 | omega⟩, by first | exact i10 | omega, hrt⟩) _) hT (pr := []) (pcs := [wd_Txp cs h r (fun k => if k = 3 then (some hp) else none) f a g]) hw px_X.tt (px_recv hT hw 0 0 rfl rfl rfl) m9_15 m9_12 m9_14 ms_7_0 m1_35 q_Txp_pop ⟨Nat.le_of_ble_eq_true rfl, Nat.le_of_ble_eq_true rfl⟩ hl.1 rfl (Nat.le_of_ble_eq_true rfl) d_Txp_ask_14 ⟨Nat.le_of_ble_eq_true rfl, Nat.le_of_ble_eq_true rfl⟩) hw hA (fun v6 p5 H locs hp5 hw => ?_)
    obtain ⟨f3, a4, rfl, h14, e7, e8, e9, e10, e11, e12, e13⟩ := hp5
    obtain ⟨lk, ⟨i2, i3⟩, ⟨i4, i5⟩, ⟨i6, i7⟩, i8, ⟨i9, i11⟩, i10, hrt⟩ := h14
    have e7 : (f3 9).toInt = (f 9).toInt := e7
    have e8 : (f3 17).toInt = (f 17).toInt := e8
    have e9 : (f3 21).toInt = (f 21).toInt := e9
    have e10 : (f3 15).toInt = (f 15).toInt := e10
    have e11 : (f3 20).toInt = (f 20).toInt := e11
    have e12 : (f3 4).toInt = (f 4).toInt := e12
    have e13 : R_Txp_pop f a f3 a4 v6 := e13
    have lv6 := Int32.le_toInt v6
    have uv6 := Int32.toInt_lt v6
    refine px_put S k_Txp hT hw 0 0 14 rfl rfl (by decide) m6_227 rfl rfl rfl (Nat.le_of_ble_eq_true rfl) d_Txp_ask_17 (w' := wd_Txp cs h r (fun k => if k = 3 then (some hp) else none) (upd f3 14 v6) a4 g) (ps' := [wd_Txp cs h r (fun k => if k = 3 then (some hp) else none) (upd f3 14 v6) a4 g]) rfl rfl (fun H locs hw => ?_)
    refine lv_aload_n S.x S.b d_Txp_ask_20 rfl (lv_at hl 0 rfl) ?_
    refine lv_aload_n S.x S.b d_Txp_ask_21 rfl (lv_at hl 0 rfl) ?_
    first | refine px_calli (pr := []) (px_runV (As := []) (rest := [.ref h]) S (c_Txp_pop l D cs h r g hp (upd f3 14 v6) a4   (show TxOk (f3 4) (f3 5) (f3 8) (f3 9) (f3 17) (f3 21) (a4 2) from ⟨lk, ⟨i2, i3⟩, ⟨i4, i5⟩, ⟨i6, i7⟩, i8, ⟨i9, i11⟩, i10, hrt⟩) _) hT (pr := []) (pcs := [wd_Txp cs h r (fun k => if k = 3 then (some hp) else none) (upd f3 14 v6) a4 g]) hw px_X.tt (px_recv hT hw 0 0 rfl rfl rfl) m9_15 m9_12 m9_14 ms_7_0 m1_35 q_Txp_pop ⟨Nat.le_of_ble_eq_true rfl, Nat.le_of_ble_eq_true rfl⟩ hl.1 rfl (Nat.le_of_ble_eq_true rfl) d_Txp_ask_22 ⟨Nat.le_of_ble_eq_true rfl, Nat.le_of_ble_eq_true rfl⟩) hw hA (fun v18 p17 H locs hp17 hw => ?_) | refine px_calli (pr := []) (px_runV (As := []) (rest := [.ref h]) S (c_Txp_pop l D cs h r g hp (upd f3 14 v6) a4   (show TxOk (f3 4) (f3 5) (f3 8) (f3 9) (f3 17) (f3 21) (a4 2) from ⟨lk, ⟨by first | exact i2 | omega, by first | exact i3 | omega⟩, ⟨by first | exact i4 | omega, by first | exact i5 | omega⟩, ⟨by first | exact i6 | omega, by first | exact i7 | omega⟩, by first | exact i8 | omega, ⟨by first | exact i9 | omega, by first | exact i11 | omega⟩, by first | exact i10 | omega, hrt⟩) _) hT (pr := []) (pcs := [wd_Txp cs h r (fun k => if k = 3 then (some hp) else none) (upd f3 14 v6) a4 g]) hw px_X.tt (px_recv hT hw 0 0 rfl rfl rfl) m9_15 m9_12 m9_14 ms_7_0 m1_35 q_Txp_pop ⟨Nat.le_of_ble_eq_true rfl, Nat.le_of_ble_eq_true rfl⟩ hl.1 rfl (Nat.le_of_ble_eq_true rfl) d_Txp_ask_22 ⟨Nat.le_of_ble_eq_true rfl, Nat.le_of_ble_eq_true rfl⟩) hw hA (fun v18 p17 H locs hp17 hw => ?_)
    obtain ⟨f15, a16, rfl, h26, e19, e20, e21, e22, e23, e24, e25⟩ := hp17
    obtain ⟨lk, ⟨i2, i3⟩, ⟨i4, i5⟩, ⟨i6, i7⟩, i8, ⟨i9, i11⟩, i10, hrt⟩ := h26
    have e19 : (f15 9).toInt = (f3 9).toInt := e19
    have e20 : (f15 17).toInt = (f3 17).toInt := e20
    have e21 : (f15 21).toInt = (f3 21).toInt := e21
    have e22 : (f15 15).toInt = (f3 15).toInt := e22
    have e23 : (f15 20).toInt = (f3 20).toInt := e23
    have e24 : (f15 4).toInt = (f3 4).toInt := e24
    have e25 : R_Txp_pop (upd f3 14 v6) a4 f15 a16 v18 := e25
    have lv18 := Int32.le_toInt v18
    have uv18 := Int32.toInt_lt v18
    refine px_put S k_Txp hT hw 0 0 13 rfl rfl (by decide) m6_226 rfl rfl rfl (Nat.le_of_ble_eq_true rfl) d_Txp_ask_25 (w' := wd_Txp cs h r (fun k => if k = 3 then (some hp) else none) (upd f15 13 v18) a16 g) (ps' := [wd_Txp cs h r (fun k => if k = 3 then (some hp) else none) (upd f15 13 v18) a16 g]) rfl rfl (fun H locs hw => ?_)
    refine lv_goto (tgt := 49) S.x S.b d_Txp_ask_28 (by decide) ?_
    refine lv_aload_n S.x S.b d_Txp_ask_49 rfl (lv_at hl 0 rfl) ?_
    refine lv_aload_n S.x S.b d_Txp_ask_50 rfl (lv_at hl 0 rfl) ?_
    first | refine px_calli (pr := []) (px_runV (As := []) (rest := [.ref h]) S (c_Txp_pop l D cs h r g hp (upd f15 13 v18) a16   (show TxOk (f15 4) (f15 5) (f15 8) (f15 9) (f15 17) (f15 21) (a16 2) from ⟨lk, ⟨i2, i3⟩, ⟨i4, i5⟩, ⟨i6, i7⟩, i8, ⟨i9, i11⟩, i10, hrt⟩) _) hT (pr := []) (pcs := [wd_Txp cs h r (fun k => if k = 3 then (some hp) else none) (upd f15 13 v18) a16 g]) hw px_X.tt (px_recv hT hw 0 0 rfl rfl rfl) m9_15 m9_12 m9_14 ms_7_0 m1_35 q_Txp_pop ⟨Nat.le_of_ble_eq_true rfl, Nat.le_of_ble_eq_true rfl⟩ hl.1 rfl (Nat.le_of_ble_eq_true rfl) d_Txp_ask_51 ⟨Nat.le_of_ble_eq_true rfl, Nat.le_of_ble_eq_true rfl⟩) hw hA (fun v30 p29 H locs hp29 hw => ?_) | refine px_calli (pr := []) (px_runV (As := []) (rest := [.ref h]) S (c_Txp_pop l D cs h r g hp (upd f15 13 v18) a16   (show TxOk (f15 4) (f15 5) (f15 8) (f15 9) (f15 17) (f15 21) (a16 2) from ⟨lk, ⟨by first | exact i2 | omega, by first | exact i3 | omega⟩, ⟨by first | exact i4 | omega, by first | exact i5 | omega⟩, ⟨by first | exact i6 | omega, by first | exact i7 | omega⟩, by first | exact i8 | omega, ⟨by first | exact i9 | omega, by first | exact i11 | omega⟩, by first | exact i10 | omega, hrt⟩) _) hT (pr := []) (pcs := [wd_Txp cs h r (fun k => if k = 3 then (some hp) else none) (upd f15 13 v18) a16 g]) hw px_X.tt (px_recv hT hw 0 0 rfl rfl rfl) m9_15 m9_12 m9_14 ms_7_0 m1_35 q_Txp_pop ⟨Nat.le_of_ble_eq_true rfl, Nat.le_of_ble_eq_true rfl⟩ hl.1 rfl (Nat.le_of_ble_eq_true rfl) d_Txp_ask_51 ⟨Nat.le_of_ble_eq_true rfl, Nat.le_of_ble_eq_true rfl⟩) hw hA (fun v30 p29 H locs hp29 hw => ?_)
    obtain ⟨f27, a28, rfl, h38, e31, e32, e33, e34, e35, e36, e37⟩ := hp29
    obtain ⟨lk, ⟨i2, i3⟩, ⟨i4, i5⟩, ⟨i6, i7⟩, i8, ⟨i9, i11⟩, i10, hrt⟩ := h38
    have e31 : (f27 9).toInt = (f15 9).toInt := e31
    have e32 : (f27 17).toInt = (f15 17).toInt := e32
    have e33 : (f27 21).toInt = (f15 21).toInt := e33
    have e34 : (f27 15).toInt = (f15 15).toInt := e34
    have e35 : (f27 20).toInt = (f15 20).toInt := e35
    have e36 : (f27 4).toInt = (f15 4).toInt := e36
    have e37 : R_Txp_pop (upd f15 13 v18) a16 f27 a28 v30 := e37
    have lv30 := Int32.le_toInt v30
    have uv30 := Int32.toInt_lt v30
    refine px_putS S k_Txp hT hw 0 0 23 rfl rfl (by decide) m6_162 m6_163 rfl rfl rfl (Nat.le_of_ble_eq_true rfl) d_Txp_ask_54 (w' := wd_Txp cs h r (fun k => if k = 3 then (some hp) else none) (upd f27 23 v30) a28 g) (ps' := [wd_Txp cs h r (fun k => if k = 3 then (some hp) else none) (upd f27 23 v30) a28 g]) rfl rfl (fun H locs hw => ?_)
    refine lv_aload_n S.x S.b d_Txp_ask_57 rfl (lv_at hl 0 rfl) ?_
    refine lv_iload_n S.x S.b d_Txp_ask_58 rfl (lv_at hl 1 rfl) ?_
    refine px_putS S k_Txp hT hw 0 0 22 rfl rfl (by decide) m6_159 m6_160 rfl rfl rfl (Nat.le_of_ble_eq_true rfl) d_Txp_ask_59 (w' := wd_Txp cs h r (fun k => if k = 3 then (some hp) else none) (upd (upd f27 22 p0) 23 v30) a28 g) (ps' := [wd_Txp cs h r (fun k => if k = 3 then (some hp) else none) (upd (upd f27 22 p0) 23 v30) a28 g]) rfl rfl (fun H locs hw => ?_)
    refine lv_aload_n S.x S.b d_Txp_ask_62 rfl (lv_at hl 0 rfl) ?_
    refine lv_iconst (v := 1) S.x S.b d_Txp_ask_63 (by decide) ?_
    refine px_putS S k_Txp hT hw 0 0 21 rfl rfl (by decide) m6_153 m6_154 rfl rfl rfl (Nat.le_of_ble_eq_true rfl) d_Txp_ask_64 (w' := wd_Txp cs h r (fun k => if k = 3 then (some hp) else none) (upd (upd (upd f27 21 1) 22 p0) 23 v30) a28 g) (ps' := [wd_Txp cs h r (fun k => if k = 3 then (some hp) else none) (upd (upd (upd f27 21 1) 22 p0) 23 v30) a28 g]) rfl rfl (fun H locs hw => ?_)
    first | exact px_vret S hr hlk hAe hw (Nat.le_of_ble_eq_true rfl) (Nat.le_of_ble_eq_true rfl) (⟨(upd (upd (upd f27 21 1) 22 p0) 23 v30), a28, rfl, (show TxOk (f27 4) (f27 5) (f27 8) (f27 9) (f27 17) 1 (a28 2) from ⟨lk, ⟨i2, i3⟩, ⟨i4, i5⟩, ⟨i6, i7⟩, i8, ⟨by omega, by omega⟩, by omega, hrt⟩), (show (f27 9).toInt = (f 9).toInt from (oz_e13fc83238 e7 e31 e19)), (show (f27 17).toInt = (f 17).toInt from (oz_e13fc83238 e8 e32 e20)), (show (1 : Int) = 1 from oz_1285e5f113), (show (f27 15).toInt = (f 15).toInt from (oz_e13fc83238 e10 e34 e22)), (show (f27 20).toInt = (f 20).toInt from (oz_e13fc83238 e11 e35 e23)), (show R_Txp_ask p0 f a (upd (upd (upd f27 21 1) 22 p0) 23 v30) a28 from (Or.inl (Or.inl ⟨nc1, f3, a4, v6, e13, f15, a16, v18, e25, f27, a28, v30, e37, rfl, rfl⟩)))⟩) d_Txp_ask_67 | exact px_vret S hr hlk hAe hw (Nat.le_of_ble_eq_true rfl) (Nat.le_of_ble_eq_true rfl) (⟨(upd (upd (upd f27 21 1) 22 p0) 23 v30), a28, rfl, (show TxOk (f27 4) (f27 5) (f27 8) (f27 9) (f27 17) 1 (a28 2) from ⟨lk, ⟨by first | exact i2 | omega, by first | exact i3 | omega⟩, ⟨by first | exact i4 | omega, by first | exact i5 | omega⟩, ⟨by first | exact i6 | omega, by first | exact i7 | omega⟩, by first | exact i8 | omega, ⟨by omega, by omega⟩, by omega, hrt⟩), (show (f27 9).toInt = (f 9).toInt from by first | exact oz_e13fc83238 e7 e31 e19 | omega), (show (f27 17).toInt = (f 17).toInt from by first | exact oz_e13fc83238 e8 e32 e20 | omega), (show (1 : Int) = 1 from by first | exact oz_1285e5f113 | omega), (show (f27 15).toInt = (f 15).toInt from by first | exact oz_e13fc83238 e10 e34 e22 | omega), (show (f27 20).toInt = (f 20).toInt from by first | exact oz_e13fc83238 e11 e35 e23 | omega), (show R_Txp_ask p0 f a (upd (upd (upd f27 21 1) 22 p0) 23 v30) a28 from (Or.inl (Or.inl ⟨nc1, f3, a4, v6, e13, f15, a16, v18, e25, f27, a28, v30, e37, rfl, rfl⟩)))⟩) d_Txp_ask_67
  · have nc1 : ¬ p0.toInt = (7 : Int) := mt (i_eq (x := p0) (y := 7)).mpr c1
    refine lv_iload_n S.x S.b d_Txp_ask_6 rfl (lv_at hl 1 rfl) ?_
    refine lv_bipush (v := 8) S.x S.b d_Txp_ask_7 (by decide) ?_
    refine lv_icmp_ne (tgt := 31) S.x S.b d_Txp_ask_9 (by decide) (fun c39 => ?_) (fun c39 => ?_)
    · have nc39 : ¬ p0.toInt = (8 : Int) := mt (i_eq (x := p0) (y := 8)).mpr c39
      refine lv_iload_n S.x S.b d_Txp_ask_31 rfl (lv_at hl 1 rfl) ?_
      refine lv_iconst (v := 2) S.x S.b d_Txp_ask_32 (by decide) ?_
      refine lv_icmp_eq (tgt := 41) S.x S.b d_Txp_ask_33 (by decide) (fun c41 => ?_) (fun c41 => ?_)
      · have nc41 : p0.toInt = (2 : Int) := (i_eq (x := p0) (y := 2)).mp c41
        refine lv_aload_n S.x S.b d_Txp_ask_41 rfl (lv_at hl 0 rfl) ?_
        refine lv_aload_n S.x S.b d_Txp_ask_42 rfl (lv_at hl 0 rfl) ?_
        first | refine px_calli (pr := []) (px_runV (As := []) (rest := [.ref h]) S (c_Txp_pop l D cs h r g hp f a   (show TxOk (f 4) (f 5) (f 8) (f 9) (f 17) (f 21) (a 2) from ⟨lk, ⟨i2, i3⟩, ⟨i4, i5⟩, ⟨i6, i7⟩, i8, ⟨i9, i11⟩, i10, hrt⟩) _) hT (pr := []) (pcs := [wd_Txp cs h r (fun k => if k = 3 then (some hp) else none) f a g]) hw px_X.tt (px_recv hT hw 0 0 rfl rfl rfl) m9_15 m9_12 m9_14 ms_7_0 m1_35 q_Txp_pop ⟨Nat.le_of_ble_eq_true rfl, Nat.le_of_ble_eq_true rfl⟩ hl.1 rfl (Nat.le_of_ble_eq_true rfl) d_Txp_ask_43 ⟨Nat.le_of_ble_eq_true rfl, Nat.le_of_ble_eq_true rfl⟩) hw hA (fun v46 p45 H locs hp45 hw => ?_) | refine px_calli (pr := []) (px_runV (As := []) (rest := [.ref h]) S (c_Txp_pop l D cs h r g hp f a   (show TxOk (f 4) (f 5) (f 8) (f 9) (f 17) (f 21) (a 2) from ⟨lk, ⟨by first | exact i2 | omega, by first | exact i3 | omega⟩, ⟨by first | exact i4 | omega, by first | exact i5 | omega⟩, ⟨by first | exact i6 | omega, by first | exact i7 | omega⟩, by first | exact i8 | omega, ⟨by first | exact i9 | omega, by first | exact i11 | omega⟩, by first | exact i10 | omega, hrt⟩) _) hT (pr := []) (pcs := [wd_Txp cs h r (fun k => if k = 3 then (some hp) else none) f a g]) hw px_X.tt (px_recv hT hw 0 0 rfl rfl rfl) m9_15 m9_12 m9_14 ms_7_0 m1_35 q_Txp_pop ⟨Nat.le_of_ble_eq_true rfl, Nat.le_of_ble_eq_true rfl⟩ hl.1 rfl (Nat.le_of_ble_eq_true rfl) d_Txp_ask_43 ⟨Nat.le_of_ble_eq_true rfl, Nat.le_of_ble_eq_true rfl⟩) hw hA (fun v46 p45 H locs hp45 hw => ?_)
        obtain ⟨f43, a44, rfl, h54, e47, e48, e49, e50, e51, e52, e53⟩ := hp45
        obtain ⟨lk, ⟨i2, i3⟩, ⟨i4, i5⟩, ⟨i6, i7⟩, i8, ⟨i9, i11⟩, i10, hrt⟩ := h54
        have e47 : (f43 9).toInt = (f 9).toInt := e47
        have e48 : (f43 17).toInt = (f 17).toInt := e48
        have e49 : (f43 21).toInt = (f 21).toInt := e49
        have e50 : (f43 15).toInt = (f 15).toInt := e50
        have e51 : (f43 20).toInt = (f 20).toInt := e51
        have e52 : (f43 4).toInt = (f 4).toInt := e52
        have e53 : R_Txp_pop f a f43 a44 v46 := e53
        have lv46 := Int32.le_toInt v46
        have uv46 := Int32.toInt_lt v46
        refine px_putS S k_Txp hT hw 0 0 24 rfl rfl (by decide) m6_167 m6_168 rfl rfl rfl (Nat.le_of_ble_eq_true rfl) d_Txp_ask_46 (w' := wd_Txp cs h r (fun k => if k = 3 then (some hp) else none) (upd f43 24 v46) a44 g) (ps' := [wd_Txp cs h r (fun k => if k = 3 then (some hp) else none) (upd f43 24 v46) a44 g]) rfl rfl (fun H locs hw => ?_)
        refine lv_aload_n S.x S.b d_Txp_ask_49 rfl (lv_at hl 0 rfl) ?_
        refine lv_aload_n S.x S.b d_Txp_ask_50 rfl (lv_at hl 0 rfl) ?_
        first | refine px_calli (pr := []) (px_runV (As := []) (rest := [.ref h]) S (c_Txp_pop l D cs h r g hp (upd f43 24 v46) a44   (show TxOk (f43 4) (f43 5) (f43 8) (f43 9) (f43 17) (f43 21) (a44 2) from ⟨lk, ⟨i2, i3⟩, ⟨i4, i5⟩, ⟨i6, i7⟩, i8, ⟨i9, i11⟩, i10, hrt⟩) _) hT (pr := []) (pcs := [wd_Txp cs h r (fun k => if k = 3 then (some hp) else none) (upd f43 24 v46) a44 g]) hw px_X.tt (px_recv hT hw 0 0 rfl rfl rfl) m9_15 m9_12 m9_14 ms_7_0 m1_35 q_Txp_pop ⟨Nat.le_of_ble_eq_true rfl, Nat.le_of_ble_eq_true rfl⟩ hl.1 rfl (Nat.le_of_ble_eq_true rfl) d_Txp_ask_51 ⟨Nat.le_of_ble_eq_true rfl, Nat.le_of_ble_eq_true rfl⟩) hw hA (fun v58 p57 H locs hp57 hw => ?_) | refine px_calli (pr := []) (px_runV (As := []) (rest := [.ref h]) S (c_Txp_pop l D cs h r g hp (upd f43 24 v46) a44   (show TxOk (f43 4) (f43 5) (f43 8) (f43 9) (f43 17) (f43 21) (a44 2) from ⟨lk, ⟨by first | exact i2 | omega, by first | exact i3 | omega⟩, ⟨by first | exact i4 | omega, by first | exact i5 | omega⟩, ⟨by first | exact i6 | omega, by first | exact i7 | omega⟩, by first | exact i8 | omega, ⟨by first | exact i9 | omega, by first | exact i11 | omega⟩, by first | exact i10 | omega, hrt⟩) _) hT (pr := []) (pcs := [wd_Txp cs h r (fun k => if k = 3 then (some hp) else none) (upd f43 24 v46) a44 g]) hw px_X.tt (px_recv hT hw 0 0 rfl rfl rfl) m9_15 m9_12 m9_14 ms_7_0 m1_35 q_Txp_pop ⟨Nat.le_of_ble_eq_true rfl, Nat.le_of_ble_eq_true rfl⟩ hl.1 rfl (Nat.le_of_ble_eq_true rfl) d_Txp_ask_51 ⟨Nat.le_of_ble_eq_true rfl, Nat.le_of_ble_eq_true rfl⟩) hw hA (fun v58 p57 H locs hp57 hw => ?_)
        obtain ⟨f55, a56, rfl, h66, e59, e60, e61, e62, e63, e64, e65⟩ := hp57
        obtain ⟨lk, ⟨i2, i3⟩, ⟨i4, i5⟩, ⟨i6, i7⟩, i8, ⟨i9, i11⟩, i10, hrt⟩ := h66
        have e59 : (f55 9).toInt = (f43 9).toInt := e59
        have e60 : (f55 17).toInt = (f43 17).toInt := e60
        have e61 : (f55 21).toInt = (f43 21).toInt := e61
        have e62 : (f55 15).toInt = (f43 15).toInt := e62
        have e63 : (f55 20).toInt = (f43 20).toInt := e63
        have e64 : (f55 4).toInt = (f43 4).toInt := e64
        have e65 : R_Txp_pop (upd f43 24 v46) a44 f55 a56 v58 := e65
        have lv58 := Int32.le_toInt v58
        have uv58 := Int32.toInt_lt v58
        refine px_putS S k_Txp hT hw 0 0 23 rfl rfl (by decide) m6_162 m6_163 rfl rfl rfl (Nat.le_of_ble_eq_true rfl) d_Txp_ask_54 (w' := wd_Txp cs h r (fun k => if k = 3 then (some hp) else none) (upd f55 23 v58) a56 g) (ps' := [wd_Txp cs h r (fun k => if k = 3 then (some hp) else none) (upd f55 23 v58) a56 g]) rfl rfl (fun H locs hw => ?_)
        refine lv_aload_n S.x S.b d_Txp_ask_57 rfl (lv_at hl 0 rfl) ?_
        refine lv_iload_n S.x S.b d_Txp_ask_58 rfl (lv_at hl 1 rfl) ?_
        refine px_putS S k_Txp hT hw 0 0 22 rfl rfl (by decide) m6_159 m6_160 rfl rfl rfl (Nat.le_of_ble_eq_true rfl) d_Txp_ask_59 (w' := wd_Txp cs h r (fun k => if k = 3 then (some hp) else none) (upd (upd f55 22 p0) 23 v58) a56 g) (ps' := [wd_Txp cs h r (fun k => if k = 3 then (some hp) else none) (upd (upd f55 22 p0) 23 v58) a56 g]) rfl rfl (fun H locs hw => ?_)
        refine lv_aload_n S.x S.b d_Txp_ask_62 rfl (lv_at hl 0 rfl) ?_
        refine lv_iconst (v := 1) S.x S.b d_Txp_ask_63 (by decide) ?_
        refine px_putS S k_Txp hT hw 0 0 21 rfl rfl (by decide) m6_153 m6_154 rfl rfl rfl (Nat.le_of_ble_eq_true rfl) d_Txp_ask_64 (w' := wd_Txp cs h r (fun k => if k = 3 then (some hp) else none) (upd (upd (upd f55 21 1) 22 p0) 23 v58) a56 g) (ps' := [wd_Txp cs h r (fun k => if k = 3 then (some hp) else none) (upd (upd (upd f55 21 1) 22 p0) 23 v58) a56 g]) rfl rfl (fun H locs hw => ?_)
        first | exact px_vret S hr hlk hAe hw (Nat.le_of_ble_eq_true rfl) (Nat.le_of_ble_eq_true rfl) (⟨(upd (upd (upd f55 21 1) 22 p0) 23 v58), a56, rfl, (show TxOk (f55 4) (f55 5) (f55 8) (f55 9) (f55 17) 1 (a56 2) from ⟨lk, ⟨i2, i3⟩, ⟨i4, i5⟩, ⟨i6, i7⟩, i8, ⟨by omega, by omega⟩, by omega, hrt⟩), (show (f55 9).toInt = (f 9).toInt from (oz_1687f4cc65 e47 e59)), (show (f55 17).toInt = (f 17).toInt from (oz_1687f4cc65 e48 e60)), (show (1 : Int) = 1 from oz_1285e5f113), (show (f55 15).toInt = (f 15).toInt from (oz_1687f4cc65 e50 e62)), (show (f55 20).toInt = (f 20).toInt from (oz_1687f4cc65 e51 e63)), (show R_Txp_ask p0 f a (upd (upd (upd f55 21 1) 22 p0) 23 v58) a56 from (Or.inl (Or.inr ⟨nc1, Or.inl ⟨nc39, Or.inl ⟨nc41, f43, a44, v46, e53, f55, a56, v58, e65, rfl, rfl⟩⟩⟩)))⟩) d_Txp_ask_67 | exact px_vret S hr hlk hAe hw (Nat.le_of_ble_eq_true rfl) (Nat.le_of_ble_eq_true rfl) (⟨(upd (upd (upd f55 21 1) 22 p0) 23 v58), a56, rfl, (show TxOk (f55 4) (f55 5) (f55 8) (f55 9) (f55 17) 1 (a56 2) from ⟨lk, ⟨by first | exact i2 | omega, by first | exact i3 | omega⟩, ⟨by first | exact i4 | omega, by first | exact i5 | omega⟩, ⟨by first | exact i6 | omega, by first | exact i7 | omega⟩, by first | exact i8 | omega, ⟨by omega, by omega⟩, by omega, hrt⟩), (show (f55 9).toInt = (f 9).toInt from by first | exact oz_1687f4cc65 e47 e59 | omega), (show (f55 17).toInt = (f 17).toInt from by first | exact oz_1687f4cc65 e48 e60 | omega), (show (1 : Int) = 1 from by first | exact oz_1285e5f113 | omega), (show (f55 15).toInt = (f 15).toInt from by first | exact oz_1687f4cc65 e50 e62 | omega), (show (f55 20).toInt = (f 20).toInt from by first | exact oz_1687f4cc65 e51 e63 | omega), (show R_Txp_ask p0 f a (upd (upd (upd f55 21 1) 22 p0) 23 v58) a56 from (Or.inl (Or.inr ⟨nc1, Or.inl ⟨nc39, Or.inl ⟨nc41, f43, a44, v46, e53, f55, a56, v58, e65, rfl, rfl⟩⟩⟩)))⟩) d_Txp_ask_67
      · have nc41 : ¬ p0.toInt = (2 : Int) := mt (i_eq (x := p0) (y := 2)).mpr c41
        refine lv_iload_n S.x S.b d_Txp_ask_36 rfl (lv_at hl 1 rfl) ?_
        refine lv_iconst (v := 5) S.x S.b d_Txp_ask_37 (by decide) ?_
        refine lv_icmp_ne (tgt := 49) S.x S.b d_Txp_ask_38 (by decide) (fun c67 => ?_) (fun c67 => ?_)
        · have nc67 : ¬ p0.toInt = (5 : Int) := mt (i_eq (x := p0) (y := 5)).mpr c67
          refine lv_aload_n S.x S.b d_Txp_ask_49 rfl (lv_at hl 0 rfl) ?_
          refine lv_aload_n S.x S.b d_Txp_ask_50 rfl (lv_at hl 0 rfl) ?_
          first | refine px_calli (pr := []) (px_runV (As := []) (rest := [.ref h]) S (c_Txp_pop l D cs h r g hp f a   (show TxOk (f 4) (f 5) (f 8) (f 9) (f 17) (f 21) (a 2) from ⟨lk, ⟨i2, i3⟩, ⟨i4, i5⟩, ⟨i6, i7⟩, i8, ⟨i9, i11⟩, i10, hrt⟩) _) hT (pr := []) (pcs := [wd_Txp cs h r (fun k => if k = 3 then (some hp) else none) f a g]) hw px_X.tt (px_recv hT hw 0 0 rfl rfl rfl) m9_15 m9_12 m9_14 ms_7_0 m1_35 q_Txp_pop ⟨Nat.le_of_ble_eq_true rfl, Nat.le_of_ble_eq_true rfl⟩ hl.1 rfl (Nat.le_of_ble_eq_true rfl) d_Txp_ask_51 ⟨Nat.le_of_ble_eq_true rfl, Nat.le_of_ble_eq_true rfl⟩) hw hA (fun v72 p71 H locs hp71 hw => ?_) | refine px_calli (pr := []) (px_runV (As := []) (rest := [.ref h]) S (c_Txp_pop l D cs h r g hp f a   (show TxOk (f 4) (f 5) (f 8) (f 9) (f 17) (f 21) (a 2) from ⟨lk, ⟨by first | exact i2 | omega, by first | exact i3 | omega⟩, ⟨by first | exact i4 | omega, by first | exact i5 | omega⟩, ⟨by first | exact i6 | omega, by first | exact i7 | omega⟩, by first | exact i8 | omega, ⟨by first | exact i9 | omega, by first | exact i11 | omega⟩, by first | exact i10 | omega, hrt⟩) _) hT (pr := []) (pcs := [wd_Txp cs h r (fun k => if k = 3 then (some hp) else none) f a g]) hw px_X.tt (px_recv hT hw 0 0 rfl rfl rfl) m9_15 m9_12 m9_14 ms_7_0 m1_35 q_Txp_pop ⟨Nat.le_of_ble_eq_true rfl, Nat.le_of_ble_eq_true rfl⟩ hl.1 rfl (Nat.le_of_ble_eq_true rfl) d_Txp_ask_51 ⟨Nat.le_of_ble_eq_true rfl, Nat.le_of_ble_eq_true rfl⟩) hw hA (fun v72 p71 H locs hp71 hw => ?_)
          obtain ⟨f69, a70, rfl, h80, e73, e74, e75, e76, e77, e78, e79⟩ := hp71
          obtain ⟨lk, ⟨i2, i3⟩, ⟨i4, i5⟩, ⟨i6, i7⟩, i8, ⟨i9, i11⟩, i10, hrt⟩ := h80
          have e73 : (f69 9).toInt = (f 9).toInt := e73
          have e74 : (f69 17).toInt = (f 17).toInt := e74
          have e75 : (f69 21).toInt = (f 21).toInt := e75
          have e76 : (f69 15).toInt = (f 15).toInt := e76
          have e77 : (f69 20).toInt = (f 20).toInt := e77
          have e78 : (f69 4).toInt = (f 4).toInt := e78
          have e79 : R_Txp_pop f a f69 a70 v72 := e79
          have lv72 := Int32.le_toInt v72
          have uv72 := Int32.toInt_lt v72
          refine px_putS S k_Txp hT hw 0 0 23 rfl rfl (by decide) m6_162 m6_163 rfl rfl rfl (Nat.le_of_ble_eq_true rfl) d_Txp_ask_54 (w' := wd_Txp cs h r (fun k => if k = 3 then (some hp) else none) (upd f69 23 v72) a70 g) (ps' := [wd_Txp cs h r (fun k => if k = 3 then (some hp) else none) (upd f69 23 v72) a70 g]) rfl rfl (fun H locs hw => ?_)
          refine lv_aload_n S.x S.b d_Txp_ask_57 rfl (lv_at hl 0 rfl) ?_
          refine lv_iload_n S.x S.b d_Txp_ask_58 rfl (lv_at hl 1 rfl) ?_
          refine px_putS S k_Txp hT hw 0 0 22 rfl rfl (by decide) m6_159 m6_160 rfl rfl rfl (Nat.le_of_ble_eq_true rfl) d_Txp_ask_59 (w' := wd_Txp cs h r (fun k => if k = 3 then (some hp) else none) (upd (upd f69 22 p0) 23 v72) a70 g) (ps' := [wd_Txp cs h r (fun k => if k = 3 then (some hp) else none) (upd (upd f69 22 p0) 23 v72) a70 g]) rfl rfl (fun H locs hw => ?_)
          refine lv_aload_n S.x S.b d_Txp_ask_62 rfl (lv_at hl 0 rfl) ?_
          refine lv_iconst (v := 1) S.x S.b d_Txp_ask_63 (by decide) ?_
          refine px_putS S k_Txp hT hw 0 0 21 rfl rfl (by decide) m6_153 m6_154 rfl rfl rfl (Nat.le_of_ble_eq_true rfl) d_Txp_ask_64 (w' := wd_Txp cs h r (fun k => if k = 3 then (some hp) else none) (upd (upd (upd f69 21 1) 22 p0) 23 v72) a70 g) (ps' := [wd_Txp cs h r (fun k => if k = 3 then (some hp) else none) (upd (upd (upd f69 21 1) 22 p0) 23 v72) a70 g]) rfl rfl (fun H locs hw => ?_)
          first | exact px_vret S hr hlk hAe hw (Nat.le_of_ble_eq_true rfl) (Nat.le_of_ble_eq_true rfl) (⟨(upd (upd (upd f69 21 1) 22 p0) 23 v72), a70, rfl, (show TxOk (f69 4) (f69 5) (f69 8) (f69 9) (f69 17) 1 (a70 2) from ⟨lk, ⟨i2, i3⟩, ⟨i4, i5⟩, ⟨i6, i7⟩, i8, ⟨by omega, by omega⟩, by omega, hrt⟩), (show (f69 9).toInt = (f 9).toInt from e73), (show (f69 17).toInt = (f 17).toInt from e74), (show (1 : Int) = 1 from oz_1285e5f113), (show (f69 15).toInt = (f 15).toInt from e76), (show (f69 20).toInt = (f 20).toInt from e77), (show R_Txp_ask p0 f a (upd (upd (upd f69 21 1) 22 p0) 23 v72) a70 from (Or.inl (Or.inr ⟨nc1, Or.inl ⟨nc39, Or.inr ⟨nc41, Or.inl ⟨nc67, f69, a70, v72, e79, rfl, rfl⟩⟩⟩⟩)))⟩) d_Txp_ask_67 | exact px_vret S hr hlk hAe hw (Nat.le_of_ble_eq_true rfl) (Nat.le_of_ble_eq_true rfl) (⟨(upd (upd (upd f69 21 1) 22 p0) 23 v72), a70, rfl, (show TxOk (f69 4) (f69 5) (f69 8) (f69 9) (f69 17) 1 (a70 2) from ⟨lk, ⟨by first | exact i2 | omega, by first | exact i3 | omega⟩, ⟨by first | exact i4 | omega, by first | exact i5 | omega⟩, ⟨by first | exact i6 | omega, by first | exact i7 | omega⟩, by first | exact i8 | omega, ⟨by omega, by omega⟩, by omega, hrt⟩), (show (f69 9).toInt = (f 9).toInt from by first | exact e73 | omega), (show (f69 17).toInt = (f 17).toInt from by first | exact e74 | omega), (show (1 : Int) = 1 from by first | exact oz_1285e5f113 | omega), (show (f69 15).toInt = (f 15).toInt from by first | exact e76 | omega), (show (f69 20).toInt = (f 20).toInt from by first | exact e77 | omega), (show R_Txp_ask p0 f a (upd (upd (upd f69 21 1) 22 p0) 23 v72) a70 from (Or.inl (Or.inr ⟨nc1, Or.inl ⟨nc39, Or.inr ⟨nc41, Or.inl ⟨nc67, f69, a70, v72, e79, rfl, rfl⟩⟩⟩⟩)))⟩) d_Txp_ask_67
        · have nc67 : p0.toInt = (5 : Int) := (i_eq (x := p0) (y := 5)).mp c67
          refine lv_aload_n S.x S.b d_Txp_ask_41 rfl (lv_at hl 0 rfl) ?_
          refine lv_aload_n S.x S.b d_Txp_ask_42 rfl (lv_at hl 0 rfl) ?_
          first | refine px_calli (pr := []) (px_runV (As := []) (rest := [.ref h]) S (c_Txp_pop l D cs h r g hp f a   (show TxOk (f 4) (f 5) (f 8) (f 9) (f 17) (f 21) (a 2) from ⟨lk, ⟨i2, i3⟩, ⟨i4, i5⟩, ⟨i6, i7⟩, i8, ⟨i9, i11⟩, i10, hrt⟩) _) hT (pr := []) (pcs := [wd_Txp cs h r (fun k => if k = 3 then (some hp) else none) f a g]) hw px_X.tt (px_recv hT hw 0 0 rfl rfl rfl) m9_15 m9_12 m9_14 ms_7_0 m1_35 q_Txp_pop ⟨Nat.le_of_ble_eq_true rfl, Nat.le_of_ble_eq_true rfl⟩ hl.1 rfl (Nat.le_of_ble_eq_true rfl) d_Txp_ask_43 ⟨Nat.le_of_ble_eq_true rfl, Nat.le_of_ble_eq_true rfl⟩) hw hA (fun v84 p83 H locs hp83 hw => ?_) | refine px_calli (pr := []) (px_runV (As := []) (rest := [.ref h]) S (c_Txp_pop l D cs h r g hp f a   (show TxOk (f 4) (f 5) (f 8) (f 9) (f 17) (f 21) (a 2) from ⟨lk, ⟨by first | exact i2 | omega, by first | exact i3 | omega⟩, ⟨by first | exact i4 | omega, by first | exact i5 | omega⟩, ⟨by first | exact i6 | omega, by first | exact i7 | omega⟩, by first | exact i8 | omega, ⟨by first | exact i9 | omega, by first | exact i11 | omega⟩, by first | exact i10 | omega, hrt⟩) _) hT (pr := []) (pcs := [wd_Txp cs h r (fun k => if k = 3 then (some hp) else none) f a g]) hw px_X.tt (px_recv hT hw 0 0 rfl rfl rfl) m9_15 m9_12 m9_14 ms_7_0 m1_35 q_Txp_pop ⟨Nat.le_of_ble_eq_true rfl, Nat.le_of_ble_eq_true rfl⟩ hl.1 rfl (Nat.le_of_ble_eq_true rfl) d_Txp_ask_43 ⟨Nat.le_of_ble_eq_true rfl, Nat.le_of_ble_eq_true rfl⟩) hw hA (fun v84 p83 H locs hp83 hw => ?_)
          obtain ⟨f81, a82, rfl, h92, e85, e86, e87, e88, e89, e90, e91⟩ := hp83
          obtain ⟨lk, ⟨i2, i3⟩, ⟨i4, i5⟩, ⟨i6, i7⟩, i8, ⟨i9, i11⟩, i10, hrt⟩ := h92
          have e85 : (f81 9).toInt = (f 9).toInt := e85
          have e86 : (f81 17).toInt = (f 17).toInt := e86
          have e87 : (f81 21).toInt = (f 21).toInt := e87
          have e88 : (f81 15).toInt = (f 15).toInt := e88
          have e89 : (f81 20).toInt = (f 20).toInt := e89
          have e90 : (f81 4).toInt = (f 4).toInt := e90
          have e91 : R_Txp_pop f a f81 a82 v84 := e91
          have lv84 := Int32.le_toInt v84
          have uv84 := Int32.toInt_lt v84
          refine px_putS S k_Txp hT hw 0 0 24 rfl rfl (by decide) m6_167 m6_168 rfl rfl rfl (Nat.le_of_ble_eq_true rfl) d_Txp_ask_46 (w' := wd_Txp cs h r (fun k => if k = 3 then (some hp) else none) (upd f81 24 v84) a82 g) (ps' := [wd_Txp cs h r (fun k => if k = 3 then (some hp) else none) (upd f81 24 v84) a82 g]) rfl rfl (fun H locs hw => ?_)
          refine lv_aload_n S.x S.b d_Txp_ask_49 rfl (lv_at hl 0 rfl) ?_
          refine lv_aload_n S.x S.b d_Txp_ask_50 rfl (lv_at hl 0 rfl) ?_
          first | refine px_calli (pr := []) (px_runV (As := []) (rest := [.ref h]) S (c_Txp_pop l D cs h r g hp (upd f81 24 v84) a82   (show TxOk (f81 4) (f81 5) (f81 8) (f81 9) (f81 17) (f81 21) (a82 2) from ⟨lk, ⟨i2, i3⟩, ⟨i4, i5⟩, ⟨i6, i7⟩, i8, ⟨i9, i11⟩, i10, hrt⟩) _) hT (pr := []) (pcs := [wd_Txp cs h r (fun k => if k = 3 then (some hp) else none) (upd f81 24 v84) a82 g]) hw px_X.tt (px_recv hT hw 0 0 rfl rfl rfl) m9_15 m9_12 m9_14 ms_7_0 m1_35 q_Txp_pop ⟨Nat.le_of_ble_eq_true rfl, Nat.le_of_ble_eq_true rfl⟩ hl.1 rfl (Nat.le_of_ble_eq_true rfl) d_Txp_ask_51 ⟨Nat.le_of_ble_eq_true rfl, Nat.le_of_ble_eq_true rfl⟩) hw hA (fun v96 p95 H locs hp95 hw => ?_) | refine px_calli (pr := []) (px_runV (As := []) (rest := [.ref h]) S (c_Txp_pop l D cs h r g hp (upd f81 24 v84) a82   (show TxOk (f81 4) (f81 5) (f81 8) (f81 9) (f81 17) (f81 21) (a82 2) from ⟨lk, ⟨by first | exact i2 | omega, by first | exact i3 | omega⟩, ⟨by first | exact i4 | omega, by first | exact i5 | omega⟩, ⟨by first | exact i6 | omega, by first | exact i7 | omega⟩, by first | exact i8 | omega, ⟨by first | exact i9 | omega, by first | exact i11 | omega⟩, by first | exact i10 | omega, hrt⟩) _) hT (pr := []) (pcs := [wd_Txp cs h r (fun k => if k = 3 then (some hp) else none) (upd f81 24 v84) a82 g]) hw px_X.tt (px_recv hT hw 0 0 rfl rfl rfl) m9_15 m9_12 m9_14 ms_7_0 m1_35 q_Txp_pop ⟨Nat.le_of_ble_eq_true rfl, Nat.le_of_ble_eq_true rfl⟩ hl.1 rfl (Nat.le_of_ble_eq_true rfl) d_Txp_ask_51 ⟨Nat.le_of_ble_eq_true rfl, Nat.le_of_ble_eq_true rfl⟩) hw hA (fun v96 p95 H locs hp95 hw => ?_)
          obtain ⟨f93, a94, rfl, h104, e97, e98, e99, e100, e101, e102, e103⟩ := hp95
          obtain ⟨lk, ⟨i2, i3⟩, ⟨i4, i5⟩, ⟨i6, i7⟩, i8, ⟨i9, i11⟩, i10, hrt⟩ := h104
          have e97 : (f93 9).toInt = (f81 9).toInt := e97
          have e98 : (f93 17).toInt = (f81 17).toInt := e98
          have e99 : (f93 21).toInt = (f81 21).toInt := e99
          have e100 : (f93 15).toInt = (f81 15).toInt := e100
          have e101 : (f93 20).toInt = (f81 20).toInt := e101
          have e102 : (f93 4).toInt = (f81 4).toInt := e102
          have e103 : R_Txp_pop (upd f81 24 v84) a82 f93 a94 v96 := e103
          have lv96 := Int32.le_toInt v96
          have uv96 := Int32.toInt_lt v96
          refine px_putS S k_Txp hT hw 0 0 23 rfl rfl (by decide) m6_162 m6_163 rfl rfl rfl (Nat.le_of_ble_eq_true rfl) d_Txp_ask_54 (w' := wd_Txp cs h r (fun k => if k = 3 then (some hp) else none) (upd f93 23 v96) a94 g) (ps' := [wd_Txp cs h r (fun k => if k = 3 then (some hp) else none) (upd f93 23 v96) a94 g]) rfl rfl (fun H locs hw => ?_)
          refine lv_aload_n S.x S.b d_Txp_ask_57 rfl (lv_at hl 0 rfl) ?_
          refine lv_iload_n S.x S.b d_Txp_ask_58 rfl (lv_at hl 1 rfl) ?_
          refine px_putS S k_Txp hT hw 0 0 22 rfl rfl (by decide) m6_159 m6_160 rfl rfl rfl (Nat.le_of_ble_eq_true rfl) d_Txp_ask_59 (w' := wd_Txp cs h r (fun k => if k = 3 then (some hp) else none) (upd (upd f93 22 p0) 23 v96) a94 g) (ps' := [wd_Txp cs h r (fun k => if k = 3 then (some hp) else none) (upd (upd f93 22 p0) 23 v96) a94 g]) rfl rfl (fun H locs hw => ?_)
          refine lv_aload_n S.x S.b d_Txp_ask_62 rfl (lv_at hl 0 rfl) ?_
          refine lv_iconst (v := 1) S.x S.b d_Txp_ask_63 (by decide) ?_
          refine px_putS S k_Txp hT hw 0 0 21 rfl rfl (by decide) m6_153 m6_154 rfl rfl rfl (Nat.le_of_ble_eq_true rfl) d_Txp_ask_64 (w' := wd_Txp cs h r (fun k => if k = 3 then (some hp) else none) (upd (upd (upd f93 21 1) 22 p0) 23 v96) a94 g) (ps' := [wd_Txp cs h r (fun k => if k = 3 then (some hp) else none) (upd (upd (upd f93 21 1) 22 p0) 23 v96) a94 g]) rfl rfl (fun H locs hw => ?_)
          first | exact px_vret S hr hlk hAe hw (Nat.le_of_ble_eq_true rfl) (Nat.le_of_ble_eq_true rfl) (⟨(upd (upd (upd f93 21 1) 22 p0) 23 v96), a94, rfl, (show TxOk (f93 4) (f93 5) (f93 8) (f93 9) (f93 17) 1 (a94 2) from ⟨lk, ⟨i2, i3⟩, ⟨i4, i5⟩, ⟨i6, i7⟩, i8, ⟨by omega, by omega⟩, by omega, hrt⟩), (show (f93 9).toInt = (f 9).toInt from (oz_1687f4cc65 e85 e97)), (show (f93 17).toInt = (f 17).toInt from (oz_1687f4cc65 e86 e98)), (show (1 : Int) = 1 from oz_1285e5f113), (show (f93 15).toInt = (f 15).toInt from (oz_1687f4cc65 e88 e100)), (show (f93 20).toInt = (f 20).toInt from (oz_1687f4cc65 e89 e101)), (show R_Txp_ask p0 f a (upd (upd (upd f93 21 1) 22 p0) 23 v96) a94 from (Or.inl (Or.inr ⟨nc1, Or.inl ⟨nc39, Or.inr ⟨nc41, Or.inr ⟨nc67, f81, a82, v84, e91, f93, a94, v96, e103, rfl, rfl⟩⟩⟩⟩)))⟩) d_Txp_ask_67 | exact px_vret S hr hlk hAe hw (Nat.le_of_ble_eq_true rfl) (Nat.le_of_ble_eq_true rfl) (⟨(upd (upd (upd f93 21 1) 22 p0) 23 v96), a94, rfl, (show TxOk (f93 4) (f93 5) (f93 8) (f93 9) (f93 17) 1 (a94 2) from ⟨lk, ⟨by first | exact i2 | omega, by first | exact i3 | omega⟩, ⟨by first | exact i4 | omega, by first | exact i5 | omega⟩, ⟨by first | exact i6 | omega, by first | exact i7 | omega⟩, by first | exact i8 | omega, ⟨by omega, by omega⟩, by omega, hrt⟩), (show (f93 9).toInt = (f 9).toInt from by first | exact oz_1687f4cc65 e85 e97 | omega), (show (f93 17).toInt = (f 17).toInt from by first | exact oz_1687f4cc65 e86 e98 | omega), (show (1 : Int) = 1 from by first | exact oz_1285e5f113 | omega), (show (f93 15).toInt = (f 15).toInt from by first | exact oz_1687f4cc65 e88 e100 | omega), (show (f93 20).toInt = (f 20).toInt from by first | exact oz_1687f4cc65 e89 e101 | omega), (show R_Txp_ask p0 f a (upd (upd (upd f93 21 1) 22 p0) 23 v96) a94 from (Or.inl (Or.inr ⟨nc1, Or.inl ⟨nc39, Or.inr ⟨nc41, Or.inr ⟨nc67, f81, a82, v84, e91, f93, a94, v96, e103, rfl, rfl⟩⟩⟩⟩)))⟩) d_Txp_ask_67
    · have nc39 : p0.toInt = (8 : Int) := (i_eq (x := p0) (y := 8)).mp c39
      refine lv_aload_n S.x S.b d_Txp_ask_12 rfl (lv_at hl 0 rfl) ?_
      refine lv_aload_n S.x S.b d_Txp_ask_13 rfl (lv_at hl 0 rfl) ?_
      first | refine px_calli (pr := []) (px_runV (As := []) (rest := [.ref h]) S (c_Txp_pop l D cs h r g hp f a   (show TxOk (f 4) (f 5) (f 8) (f 9) (f 17) (f 21) (a 2) from ⟨lk, ⟨i2, i3⟩, ⟨i4, i5⟩, ⟨i6, i7⟩, i8, ⟨i9, i11⟩, i10, hrt⟩) _) hT (pr := []) (pcs := [wd_Txp cs h r (fun k => if k = 3 then (some hp) else none) f a g]) hw px_X.tt (px_recv hT hw 0 0 rfl rfl rfl) m9_15 m9_12 m9_14 ms_7_0 m1_35 q_Txp_pop ⟨Nat.le_of_ble_eq_true rfl, Nat.le_of_ble_eq_true rfl⟩ hl.1 rfl (Nat.le_of_ble_eq_true rfl) d_Txp_ask_14 ⟨Nat.le_of_ble_eq_true rfl, Nat.le_of_ble_eq_true rfl⟩) hw hA (fun v108 p107 H locs hp107 hw => ?_) | refine px_calli (pr := []) (px_runV (As := []) (rest := [.ref h]) S (c_Txp_pop l D cs h r g hp f a   (show TxOk (f 4) (f 5) (f 8) (f 9) (f 17) (f 21) (a 2) from ⟨lk, ⟨by first | exact i2 | omega, by first | exact i3 | omega⟩, ⟨by first | exact i4 | omega, by first | exact i5 | omega⟩, ⟨by first | exact i6 | omega, by first | exact i7 | omega⟩, by first | exact i8 | omega, ⟨by first | exact i9 | omega, by first | exact i11 | omega⟩, by first | exact i10 | omega, hrt⟩) _) hT (pr := []) (pcs := [wd_Txp cs h r (fun k => if k = 3 then (some hp) else none) f a g]) hw px_X.tt (px_recv hT hw 0 0 rfl rfl rfl) m9_15 m9_12 m9_14 ms_7_0 m1_35 q_Txp_pop ⟨Nat.le_of_ble_eq_true rfl, Nat.le_of_ble_eq_true rfl⟩ hl.1 rfl (Nat.le_of_ble_eq_true rfl) d_Txp_ask_14 ⟨Nat.le_of_ble_eq_true rfl, Nat.le_of_ble_eq_true rfl⟩) hw hA (fun v108 p107 H locs hp107 hw => ?_)
      obtain ⟨f105, a106, rfl, h116, e109, e110, e111, e112, e113, e114, e115⟩ := hp107
      obtain ⟨lk, ⟨i2, i3⟩, ⟨i4, i5⟩, ⟨i6, i7⟩, i8, ⟨i9, i11⟩, i10, hrt⟩ := h116
      have e109 : (f105 9).toInt = (f 9).toInt := e109
      have e110 : (f105 17).toInt = (f 17).toInt := e110
      have e111 : (f105 21).toInt = (f 21).toInt := e111
      have e112 : (f105 15).toInt = (f 15).toInt := e112
      have e113 : (f105 20).toInt = (f 20).toInt := e113
      have e114 : (f105 4).toInt = (f 4).toInt := e114
      have e115 : R_Txp_pop f a f105 a106 v108 := e115
      have lv108 := Int32.le_toInt v108
      have uv108 := Int32.toInt_lt v108
      refine px_put S k_Txp hT hw 0 0 14 rfl rfl (by decide) m6_227 rfl rfl rfl (Nat.le_of_ble_eq_true rfl) d_Txp_ask_17 (w' := wd_Txp cs h r (fun k => if k = 3 then (some hp) else none) (upd f105 14 v108) a106 g) (ps' := [wd_Txp cs h r (fun k => if k = 3 then (some hp) else none) (upd f105 14 v108) a106 g]) rfl rfl (fun H locs hw => ?_)
      refine lv_aload_n S.x S.b d_Txp_ask_20 rfl (lv_at hl 0 rfl) ?_
      refine lv_aload_n S.x S.b d_Txp_ask_21 rfl (lv_at hl 0 rfl) ?_
      first | refine px_calli (pr := []) (px_runV (As := []) (rest := [.ref h]) S (c_Txp_pop l D cs h r g hp (upd f105 14 v108) a106   (show TxOk (f105 4) (f105 5) (f105 8) (f105 9) (f105 17) (f105 21) (a106 2) from ⟨lk, ⟨i2, i3⟩, ⟨i4, i5⟩, ⟨i6, i7⟩, i8, ⟨i9, i11⟩, i10, hrt⟩) _) hT (pr := []) (pcs := [wd_Txp cs h r (fun k => if k = 3 then (some hp) else none) (upd f105 14 v108) a106 g]) hw px_X.tt (px_recv hT hw 0 0 rfl rfl rfl) m9_15 m9_12 m9_14 ms_7_0 m1_35 q_Txp_pop ⟨Nat.le_of_ble_eq_true rfl, Nat.le_of_ble_eq_true rfl⟩ hl.1 rfl (Nat.le_of_ble_eq_true rfl) d_Txp_ask_22 ⟨Nat.le_of_ble_eq_true rfl, Nat.le_of_ble_eq_true rfl⟩) hw hA (fun v120 p119 H locs hp119 hw => ?_) | refine px_calli (pr := []) (px_runV (As := []) (rest := [.ref h]) S (c_Txp_pop l D cs h r g hp (upd f105 14 v108) a106   (show TxOk (f105 4) (f105 5) (f105 8) (f105 9) (f105 17) (f105 21) (a106 2) from ⟨lk, ⟨by first | exact i2 | omega, by first | exact i3 | omega⟩, ⟨by first | exact i4 | omega, by first | exact i5 | omega⟩, ⟨by first | exact i6 | omega, by first | exact i7 | omega⟩, by first | exact i8 | omega, ⟨by first | exact i9 | omega, by first | exact i11 | omega⟩, by first | exact i10 | omega, hrt⟩) _) hT (pr := []) (pcs := [wd_Txp cs h r (fun k => if k = 3 then (some hp) else none) (upd f105 14 v108) a106 g]) hw px_X.tt (px_recv hT hw 0 0 rfl rfl rfl) m9_15 m9_12 m9_14 ms_7_0 m1_35 q_Txp_pop ⟨Nat.le_of_ble_eq_true rfl, Nat.le_of_ble_eq_true rfl⟩ hl.1 rfl (Nat.le_of_ble_eq_true rfl) d_Txp_ask_22 ⟨Nat.le_of_ble_eq_true rfl, Nat.le_of_ble_eq_true rfl⟩) hw hA (fun v120 p119 H locs hp119 hw => ?_)
      obtain ⟨f117, a118, rfl, h128, e121, e122, e123, e124, e125, e126, e127⟩ := hp119
      obtain ⟨lk, ⟨i2, i3⟩, ⟨i4, i5⟩, ⟨i6, i7⟩, i8, ⟨i9, i11⟩, i10, hrt⟩ := h128
      have e121 : (f117 9).toInt = (f105 9).toInt := e121
      have e122 : (f117 17).toInt = (f105 17).toInt := e122
      have e123 : (f117 21).toInt = (f105 21).toInt := e123
      have e124 : (f117 15).toInt = (f105 15).toInt := e124
      have e125 : (f117 20).toInt = (f105 20).toInt := e125
      have e126 : (f117 4).toInt = (f105 4).toInt := e126
      have e127 : R_Txp_pop (upd f105 14 v108) a106 f117 a118 v120 := e127
      have lv120 := Int32.le_toInt v120
      have uv120 := Int32.toInt_lt v120
      refine px_put S k_Txp hT hw 0 0 13 rfl rfl (by decide) m6_226 rfl rfl rfl (Nat.le_of_ble_eq_true rfl) d_Txp_ask_25 (w' := wd_Txp cs h r (fun k => if k = 3 then (some hp) else none) (upd f117 13 v120) a118 g) (ps' := [wd_Txp cs h r (fun k => if k = 3 then (some hp) else none) (upd f117 13 v120) a118 g]) rfl rfl (fun H locs hw => ?_)
      refine lv_goto (tgt := 49) S.x S.b d_Txp_ask_28 (by decide) ?_
      refine lv_aload_n S.x S.b d_Txp_ask_49 rfl (lv_at hl 0 rfl) ?_
      refine lv_aload_n S.x S.b d_Txp_ask_50 rfl (lv_at hl 0 rfl) ?_
      first | refine px_calli (pr := []) (px_runV (As := []) (rest := [.ref h]) S (c_Txp_pop l D cs h r g hp (upd f117 13 v120) a118   (show TxOk (f117 4) (f117 5) (f117 8) (f117 9) (f117 17) (f117 21) (a118 2) from ⟨lk, ⟨i2, i3⟩, ⟨i4, i5⟩, ⟨i6, i7⟩, i8, ⟨i9, i11⟩, i10, hrt⟩) _) hT (pr := []) (pcs := [wd_Txp cs h r (fun k => if k = 3 then (some hp) else none) (upd f117 13 v120) a118 g]) hw px_X.tt (px_recv hT hw 0 0 rfl rfl rfl) m9_15 m9_12 m9_14 ms_7_0 m1_35 q_Txp_pop ⟨Nat.le_of_ble_eq_true rfl, Nat.le_of_ble_eq_true rfl⟩ hl.1 rfl (Nat.le_of_ble_eq_true rfl) d_Txp_ask_51 ⟨Nat.le_of_ble_eq_true rfl, Nat.le_of_ble_eq_true rfl⟩) hw hA (fun v132 p131 H locs hp131 hw => ?_) | refine px_calli (pr := []) (px_runV (As := []) (rest := [.ref h]) S (c_Txp_pop l D cs h r g hp (upd f117 13 v120) a118   (show TxOk (f117 4) (f117 5) (f117 8) (f117 9) (f117 17) (f117 21) (a118 2) from ⟨lk, ⟨by first | exact i2 | omega, by first | exact i3 | omega⟩, ⟨by first | exact i4 | omega, by first | exact i5 | omega⟩, ⟨by first | exact i6 | omega, by first | exact i7 | omega⟩, by first | exact i8 | omega, ⟨by first | exact i9 | omega, by first | exact i11 | omega⟩, by first | exact i10 | omega, hrt⟩) _) hT (pr := []) (pcs := [wd_Txp cs h r (fun k => if k = 3 then (some hp) else none) (upd f117 13 v120) a118 g]) hw px_X.tt (px_recv hT hw 0 0 rfl rfl rfl) m9_15 m9_12 m9_14 ms_7_0 m1_35 q_Txp_pop ⟨Nat.le_of_ble_eq_true rfl, Nat.le_of_ble_eq_true rfl⟩ hl.1 rfl (Nat.le_of_ble_eq_true rfl) d_Txp_ask_51 ⟨Nat.le_of_ble_eq_true rfl, Nat.le_of_ble_eq_true rfl⟩) hw hA (fun v132 p131 H locs hp131 hw => ?_)
      obtain ⟨f129, a130, rfl, h140, e133, e134, e135, e136, e137, e138, e139⟩ := hp131
      obtain ⟨lk, ⟨i2, i3⟩, ⟨i4, i5⟩, ⟨i6, i7⟩, i8, ⟨i9, i11⟩, i10, hrt⟩ := h140
      have e133 : (f129 9).toInt = (f117 9).toInt := e133
      have e134 : (f129 17).toInt = (f117 17).toInt := e134
      have e135 : (f129 21).toInt = (f117 21).toInt := e135
      have e136 : (f129 15).toInt = (f117 15).toInt := e136
      have e137 : (f129 20).toInt = (f117 20).toInt := e137
      have e138 : (f129 4).toInt = (f117 4).toInt := e138
      have e139 : R_Txp_pop (upd f117 13 v120) a118 f129 a130 v132 := e139
      have lv132 := Int32.le_toInt v132
      have uv132 := Int32.toInt_lt v132
      refine px_putS S k_Txp hT hw 0 0 23 rfl rfl (by decide) m6_162 m6_163 rfl rfl rfl (Nat.le_of_ble_eq_true rfl) d_Txp_ask_54 (w' := wd_Txp cs h r (fun k => if k = 3 then (some hp) else none) (upd f129 23 v132) a130 g) (ps' := [wd_Txp cs h r (fun k => if k = 3 then (some hp) else none) (upd f129 23 v132) a130 g]) rfl rfl (fun H locs hw => ?_)
      refine lv_aload_n S.x S.b d_Txp_ask_57 rfl (lv_at hl 0 rfl) ?_
      refine lv_iload_n S.x S.b d_Txp_ask_58 rfl (lv_at hl 1 rfl) ?_
      refine px_putS S k_Txp hT hw 0 0 22 rfl rfl (by decide) m6_159 m6_160 rfl rfl rfl (Nat.le_of_ble_eq_true rfl) d_Txp_ask_59 (w' := wd_Txp cs h r (fun k => if k = 3 then (some hp) else none) (upd (upd f129 22 p0) 23 v132) a130 g) (ps' := [wd_Txp cs h r (fun k => if k = 3 then (some hp) else none) (upd (upd f129 22 p0) 23 v132) a130 g]) rfl rfl (fun H locs hw => ?_)
      refine lv_aload_n S.x S.b d_Txp_ask_62 rfl (lv_at hl 0 rfl) ?_
      refine lv_iconst (v := 1) S.x S.b d_Txp_ask_63 (by decide) ?_
      refine px_putS S k_Txp hT hw 0 0 21 rfl rfl (by decide) m6_153 m6_154 rfl rfl rfl (Nat.le_of_ble_eq_true rfl) d_Txp_ask_64 (w' := wd_Txp cs h r (fun k => if k = 3 then (some hp) else none) (upd (upd (upd f129 21 1) 22 p0) 23 v132) a130 g) (ps' := [wd_Txp cs h r (fun k => if k = 3 then (some hp) else none) (upd (upd (upd f129 21 1) 22 p0) 23 v132) a130 g]) rfl rfl (fun H locs hw => ?_)
      first | exact px_vret S hr hlk hAe hw (Nat.le_of_ble_eq_true rfl) (Nat.le_of_ble_eq_true rfl) (⟨(upd (upd (upd f129 21 1) 22 p0) 23 v132), a130, rfl, (show TxOk (f129 4) (f129 5) (f129 8) (f129 9) (f129 17) 1 (a130 2) from ⟨lk, ⟨i2, i3⟩, ⟨i4, i5⟩, ⟨i6, i7⟩, i8, ⟨by omega, by omega⟩, by omega, hrt⟩), (show (f129 9).toInt = (f 9).toInt from (oz_e13fc83238 e109 e133 e121)), (show (f129 17).toInt = (f 17).toInt from (oz_e13fc83238 e110 e134 e122)), (show (1 : Int) = 1 from oz_1285e5f113), (show (f129 15).toInt = (f 15).toInt from (oz_e13fc83238 e112 e136 e124)), (show (f129 20).toInt = (f 20).toInt from (oz_e13fc83238 e113 e137 e125)), (show R_Txp_ask p0 f a (upd (upd (upd f129 21 1) 22 p0) 23 v132) a130 from (Or.inl (Or.inr ⟨nc1, Or.inr ⟨nc39, f105, a106, v108, e115, f117, a118, v120, e127, f129, a130, v132, e139, rfl, rfl⟩⟩)))⟩) d_Txp_ask_67 | exact px_vret S hr hlk hAe hw (Nat.le_of_ble_eq_true rfl) (Nat.le_of_ble_eq_true rfl) (⟨(upd (upd (upd f129 21 1) 22 p0) 23 v132), a130, rfl, (show TxOk (f129 4) (f129 5) (f129 8) (f129 9) (f129 17) 1 (a130 2) from ⟨lk, ⟨by first | exact i2 | omega, by first | exact i3 | omega⟩, ⟨by first | exact i4 | omega, by first | exact i5 | omega⟩, ⟨by first | exact i6 | omega, by first | exact i7 | omega⟩, by first | exact i8 | omega, ⟨by omega, by omega⟩, by omega, hrt⟩), (show (f129 9).toInt = (f 9).toInt from by first | exact oz_e13fc83238 e109 e133 e121 | omega), (show (f129 17).toInt = (f 17).toInt from by first | exact oz_e13fc83238 e110 e134 e122 | omega), (show (1 : Int) = 1 from by first | exact oz_1285e5f113 | omega), (show (f129 15).toInt = (f 15).toInt from by first | exact oz_e13fc83238 e112 e136 e124 | omega), (show (f129 20).toInt = (f 20).toInt from by first | exact oz_e13fc83238 e113 e137 e125 | omega), (show R_Txp_ask p0 f a (upd (upd (upd f129 21 1) 22 p0) 23 v132) a130 from (Or.inl (Or.inr ⟨nc1, Or.inr ⟨nc39, f105, a106, v108, e115, f117, a118, v120, e127, f129, a130, v132, e139, rfl, rfl⟩⟩)))⟩) d_Txp_ask_67
abbrev b_Txp_movable : ByteArray := prog_11_method_5_code
def y_Txp_movable : MethodName := ⟨"HomeSystem$TextProcess", "movable", "()I"⟩
theorem d_Txp_movable_0 : decode b_Txp_movable 0 = .ok (.bipush 16, 2) := by decide +kernel
theorem d_Txp_movable_2 : decode b_Txp_movable 2 = .ok (.aload_n 0, 1) := by decide +kernel
theorem d_Txp_movable_3 : decode b_Txp_movable 3 = .ok (.getfield 88, 3) := by decide +kernel
theorem d_Txp_movable_6 : decode b_Txp_movable 6 = .ok (.invokestatic 59, 3) := by decide +kernel
theorem d_Txp_movable_9 : decode b_Txp_movable 9 = .ok (.ireturn, 1) := by decide +kernel
theorem q_Txp_movable : px_y y_Txp_movable 0 := by unfold px_y; decide +kernel
set_option maxHeartbeats 4000000 in
set_option maxRecDepth 100000 in
theorem c_Txp_movable (l : Launch) (D : va_G) (cs : Nat → ClassId) (h : Nat) (r : Nat → Nat) (g : Nat → Nat → Option Nat) (hp : Nat) (f : Nat → Int32) (a : Nat → Nat → Int32)  (hinv0 : TxOk (f 4) (f 5) (f 8) (f 9) (f 17) (f 21) (a 2)) : MetI l y_Txp_movable b_Txp_movable 1 (.int) D cs 1 30 (0) (0) [.ref h] [wd_Txp cs h r (fun k => if k = 3 then (some hp) else none) f a g] (fun _ => True) (fun v ps => (ps = [wd_Txp cs h r (fun k => if k = 3 then (some hp) else none) f a g]) ∧ (v.toInt ≤ 16) ∧ (R_Txp_movable f v)) := by
  refine px_enter (by decide) (Nat.le_of_ble_eq_true rfl) ?_
  intro p e s m below meth c A ls hAe S hr hlk hnm hA hT hX hw hl
  have hl : lv_has ls 1 [(0, .ref h)] := hl
  have cst16 : (16 : Int32).toInt = 16 := rfl
  obtain ⟨lk, ⟨i2, i3⟩, ⟨i4, i5⟩, ⟨i6, i7⟩, i8, ⟨i9, i11⟩, i10, hrt⟩ := hinv0
  refine lv_bipush (v := 16) S.x S.b d_Txp_movable_0 (by decide) ?_
  refine lv_aload_n S.x S.b d_Txp_movable_2 rfl (lv_at hl 0 rfl) ?_
  refine px_get S k_Txp hT hw 0 0 14 (v := .int (f 14)) rfl rfl rfl (by decide) m6_227 d_Txp_movable_3 ?_
  refine va_mmin S.x S.b (by rw [S.ml]; exact hl.1.symm) S.own (S.w m7_50) (S.w m2_68) (S.w m1_13) (S.w m2_69) (Nat.le_of_ble_eq_true rfl) (Nat.le_of_ble_eq_true rfl) (Nat.zero_le _) (Nat.zero_le _) d_Txp_movable_6 ?_
  refine lv_topi (fun z1 ez1 => ?_)
  have tz1 := i_min 16 (f 14) ez1
  have lz1 := Int32.le_toInt z1
  have uz1 := Int32.toInt_lt z1
  exact px_iret (v := z1) S hr rfl hlk hAe hw (Nat.le_of_ble_eq_true rfl) (Nat.le_of_ble_eq_true rfl) (⟨rfl, (show z1.toInt ≤ 16 from by omega), (show R_Txp_movable f z1 from (Or.inl ⟨z1, ez1, rfl⟩))⟩) d_Txp_movable_9
abbrev b_Txp_wordToMove : ByteArray := prog_11_method_6_code
def y_Txp_wordToMove : MethodName := ⟨"HomeSystem$TextProcess", "wordToMove", "(I)I"⟩
theorem d_Txp_wordToMove_0 : decode b_Txp_wordToMove 0 = .ok (.aload_n 0, 1) := by decide +kernel
theorem d_Txp_wordToMove_1 : decode b_Txp_wordToMove 1 = .ok (.aload_n 0, 1) := by decide +kernel
theorem d_Txp_wordToMove_2 : decode b_Txp_wordToMove 2 = .ok (.getfield 91, 3) := by decide +kernel
theorem d_Txp_wordToMove_5 : decode b_Txp_wordToMove 5 = .ok (.iload_n 1, 1) := by decide +kernel
theorem d_Txp_wordToMove_6 : decode b_Txp_wordToMove 6 = .ok (.iadd, 1) := by decide +kernel
theorem d_Txp_wordToMove_7 : decode b_Txp_wordToMove 7 = .ok (.invokevirtual 94, 3) := by decide +kernel
theorem d_Txp_wordToMove_10 : decode b_Txp_wordToMove 10 = .ok (.ireturn, 1) := by decide +kernel
theorem q_Txp_wordToMove : px_y y_Txp_wordToMove 1 := by unfold px_y; decide +kernel
set_option maxHeartbeats 4000000 in
set_option maxRecDepth 100000 in
theorem c_Txp_wordToMove (l : Launch) (D : va_G) (cs : Nat → ClassId) (h : Nat) (r : Nat → Nat) (g : Nat → Nat → Option Nat) (hp : Nat) (f : Nat → Int32) (a : Nat → Nat → Int32) (p0 : Int32)  (hinv0 : TxOk (f 4) (f 5) (f 8) (f 9) (f 17) (f 21) (a 2)) : MetI l y_Txp_wordToMove b_Txp_wordToMove 2 (.int) D cs 1 30 (0) (0) [.ref h, .int p0] [wd_Txp cs h r (fun k => if k = 3 then (some hp) else none) f a g] (fun _ => True) (fun v ps => (ps = [wd_Txp cs h r (fun k => if k = 3 then (some hp) else none) f a g]) ∧ (R_Txp_wordToMove f a p0 v)) := by
  refine px_enter (by decide) (Nat.le_of_ble_eq_true rfl) ?_
  intro p e s m below meth c A ls hAe S hr hlk hnm hA hT hX hw hl
  have hl : lv_has ls 2 [(0, .ref h), (1, .int p0)] := hl
  have lp0 := Int32.le_toInt p0
  have up0 := Int32.toInt_lt p0
  obtain ⟨lk, ⟨i2, i3⟩, ⟨i4, i5⟩, ⟨i6, i7⟩, i8, ⟨i9, i11⟩, i10, hrt⟩ := hinv0
  refine lv_aload_n S.x S.b d_Txp_wordToMove_0 rfl (lv_at hl 0 rfl) ?_
  refine lv_aload_n S.x S.b d_Txp_wordToMove_1 rfl (lv_at hl 0 rfl) ?_
  refine px_get S k_Txp hT hw 0 0 13 (v := .int (f 13)) rfl rfl rfl (by decide) m6_226 d_Txp_wordToMove_2 ?_
  refine lv_iload_n S.x S.b d_Txp_wordToMove_5 rfl (lv_at hl 1 rfl) ?_
  refine lv_iadd S.x S.b d_Txp_wordToMove_6 ?_
  have lr1 := Int32.le_toInt (f 13)
  have ur1 := Int32.toInt_lt (f 13)
  refine lv_topi (fun z2 ez2 => ?_)
  have tz2 : z2.toInt = ((f 13).toInt + p0.toInt + 2147483648) % 4294967296 - 2147483648 := by rw [ez2]; exact i_add (f 13) p0
  have lz2 := Int32.le_toInt z2
  have uz2 := Int32.toInt_lt z2
  try replace tz2 : z2.toInt = (f 13).toInt + p0.toInt := by omega
  first | refine px_calli (pr := []) (px_runV (As := [.int z2]) (rest := []) S (c_Txp_peek l D cs h r g hp f a z2  (show TxOk (f 4) (f 5) (f 8) (f 9) (f 17) (f 21) (a 2) from ⟨lk, ⟨i2, i3⟩, ⟨i4, i5⟩, ⟨i6, i7⟩, i8, ⟨i9, i11⟩, i10, hrt⟩) _) hT (pr := []) (pcs := [wd_Txp cs h r (fun k => if k = 3 then (some hp) else none) f a g]) hw px_X.tt (px_recv hT hw 0 0 rfl rfl rfl) m8_146 m8_143 m8_145 ms_5_15 m1_35 q_Txp_peek ⟨Nat.le_of_ble_eq_true rfl, Nat.le_of_ble_eq_true rfl⟩ hl.1 rfl (Nat.le_of_ble_eq_true rfl) d_Txp_wordToMove_7 ⟨Nat.le_of_ble_eq_true rfl, Nat.le_of_ble_eq_true rfl⟩) hw hA (fun v4 p3 H locs hp3 hw => ?_) | refine px_calli (pr := []) (px_runV (As := [.int z2]) (rest := []) S (c_Txp_peek l D cs h r g hp f a z2  (show TxOk (f 4) (f 5) (f 8) (f 9) (f 17) (f 21) (a 2) from ⟨lk, ⟨by first | exact i2 | omega, by first | exact i3 | omega⟩, ⟨by first | exact i4 | omega, by first | exact i5 | omega⟩, ⟨by first | exact i6 | omega, by first | exact i7 | omega⟩, by first | exact i8 | omega, ⟨by first | exact i9 | omega, by first | exact i11 | omega⟩, by first | exact i10 | omega, hrt⟩) _) hT (pr := []) (pcs := [wd_Txp cs h r (fun k => if k = 3 then (some hp) else none) f a g]) hw px_X.tt (px_recv hT hw 0 0 rfl rfl rfl) m8_146 m8_143 m8_145 ms_5_15 m1_35 q_Txp_peek ⟨Nat.le_of_ble_eq_true rfl, Nat.le_of_ble_eq_true rfl⟩ hl.1 rfl (Nat.le_of_ble_eq_true rfl) d_Txp_wordToMove_7 ⟨Nat.le_of_ble_eq_true rfl, Nat.le_of_ble_eq_true rfl⟩) hw hA (fun v4 p3 H locs hp3 hw => ?_)
  obtain ⟨rfl, e5⟩ := hp3
  have e5 : R_Txp_peek a z2 v4 := e5
  have lv4 := Int32.le_toInt v4
  have uv4 := Int32.toInt_lt v4
  exact px_iret (v := v4) S hr rfl hlk hAe hw (Nat.le_of_ble_eq_true rfl) (Nat.le_of_ble_eq_true rfl) (⟨rfl, (show R_Txp_wordToMove f a p0 v4 from (Or.inl ⟨z2, ez2, v4, e5, rfl⟩))⟩) d_Txp_wordToMove_10
abbrev b_Txp_moveWord : ByteArray := prog_11_method_7_code
def y_Txp_moveWord : MethodName := ⟨"HomeSystem$TextProcess", "moveWord", "(II)V"⟩
theorem d_Txp_moveWord_0 : decode b_Txp_moveWord 0 = .ok (.aload_n 0, 1) := by decide +kernel
theorem d_Txp_moveWord_1 : decode b_Txp_moveWord 1 = .ok (.aload_n 0, 1) := by decide +kernel
theorem d_Txp_moveWord_2 : decode b_Txp_moveWord 2 = .ok (.getfield 91, 3) := by decide +kernel
theorem d_Txp_moveWord_5 : decode b_Txp_moveWord 5 = .ok (.iload_n 1, 1) := by decide +kernel
theorem d_Txp_moveWord_6 : decode b_Txp_moveWord 6 = .ok (.iadd, 1) := by decide +kernel
theorem d_Txp_moveWord_7 : decode b_Txp_moveWord 7 = .ok (.iload_n 2, 1) := by decide +kernel
theorem d_Txp_moveWord_8 : decode b_Txp_moveWord 8 = .ok (.invokevirtual 98, 3) := by decide +kernel
theorem d_Txp_moveWord_11 : decode b_Txp_moveWord 11 = .ok (.return_, 1) := by decide +kernel
theorem q_Txp_moveWord : px_y y_Txp_moveWord 2 := by unfold px_y; decide +kernel
set_option maxHeartbeats 4000000 in
set_option maxRecDepth 100000 in
theorem c_Txp_moveWord (l : Launch) (D : va_G) (cs : Nat → ClassId) (h : Nat) (r : Nat → Nat) (g : Nat → Nat → Option Nat) (hp : Nat) (f : Nat → Int32) (a : Nat → Nat → Int32) (p0 p1 : Int32)  (hinv0 : TxOk (f 4) (f 5) (f 8) (f 9) (f 17) (f 21) (a 2)) : MetV l y_Txp_moveWord b_Txp_moveWord 3 D cs 1 30 (0) (0) [.ref h, .int p0, .int p1] [wd_Txp cs h r (fun k => if k = 3 then (some hp) else none) f a g] (fun _ => True) (fun ps => ∃ (f' : Nat → Int32) (a' : Nat → Nat → Int32), (ps = [wd_Txp cs h r (fun k => if k = 3 then (some hp) else none) f' a' g]) ∧ (TxOk (f' 4) (f' 5) (f' 8) (f' 9) (f' 17) (f' 21) (a' 2)) ∧ ((f' 9).toInt = (f 9).toInt) ∧ ((f' 17).toInt = (f 17).toInt) ∧ ((f' 21).toInt = (f 21).toInt) ∧ ((f' 15).toInt = (f 15).toInt) ∧ ((f' 20).toInt = (f 20).toInt) ∧ ((f' 4).toInt = (f 4).toInt) ∧ (R_Txp_moveWord p0 p1 f a f' a')) := by
  refine px_enter (by decide) (Nat.le_of_ble_eq_true rfl) ?_
  intro p e s m below meth c A ls hAe S hr hlk hnm hA hT hX hw hl
  have hl : lv_has ls 3 [(0, .ref h), (1, .int p0), (2, .int p1)] := hl
  have lp0 := Int32.le_toInt p0
  have up0 := Int32.toInt_lt p0
  have lp1 := Int32.le_toInt p1
  have up1 := Int32.toInt_lt p1
  obtain ⟨lk, ⟨i2, i3⟩, ⟨i4, i5⟩, ⟨i6, i7⟩, i8, ⟨i9, i11⟩, i10, hrt⟩ := hinv0
  refine lv_aload_n S.x S.b d_Txp_moveWord_0 rfl (lv_at hl 0 rfl) ?_
  refine lv_aload_n S.x S.b d_Txp_moveWord_1 rfl (lv_at hl 0 rfl) ?_
  refine px_get S k_Txp hT hw 0 0 13 (v := .int (f 13)) rfl rfl rfl (by decide) m6_226 d_Txp_moveWord_2 ?_
  refine lv_iload_n S.x S.b d_Txp_moveWord_5 rfl (lv_at hl 1 rfl) ?_
  refine lv_iadd S.x S.b d_Txp_moveWord_6 ?_
  have lr1 := Int32.le_toInt (f 13)
  have ur1 := Int32.toInt_lt (f 13)
  refine lv_topi (fun z2 ez2 => ?_)
  have tz2 : z2.toInt = ((f 13).toInt + p0.toInt + 2147483648) % 4294967296 - 2147483648 := by rw [ez2]; exact i_add (f 13) p0
  have lz2 := Int32.le_toInt z2
  have uz2 := Int32.toInt_lt z2
  try replace tz2 : z2.toInt = (f 13).toInt + p0.toInt := by omega
  refine lv_iload_n S.x S.b d_Txp_moveWord_7 rfl (lv_at hl 2 rfl) ?_
  first | refine px_callv (pr := []) (px_runV (As := [.int z2, .int p1]) (rest := []) S (c_Txp_poke l D cs h r g hp f a z2 p1  (show TxOk (f 4) (f 5) (f 8) (f 9) (f 17) (f 21) (a 2) from ⟨lk, ⟨i2, i3⟩, ⟨i4, i5⟩, ⟨i6, i7⟩, i8, ⟨i9, i11⟩, i10, hrt⟩) _) hT (pr := []) (pcs := [wd_Txp cs h r (fun k => if k = 3 then (some hp) else none) f a g]) hw px_X.tt (px_recv hT hw 0 0 rfl rfl rfl) m8_129 m8_126 m8_128 ms_5_13 m1_35 q_Txp_poke ⟨Nat.le_of_ble_eq_true rfl, Nat.le_of_ble_eq_true rfl⟩ hl.1 rfl (Nat.le_of_ble_eq_true rfl) d_Txp_moveWord_8 ⟨Nat.le_of_ble_eq_true rfl, Nat.le_of_ble_eq_true rfl⟩) hw hA (fun p5 H locs hp5 hw => ?_) | refine px_callv (pr := []) (px_runV (As := [.int z2, .int p1]) (rest := []) S (c_Txp_poke l D cs h r g hp f a z2 p1  (show TxOk (f 4) (f 5) (f 8) (f 9) (f 17) (f 21) (a 2) from ⟨lk, ⟨by first | exact i2 | omega, by first | exact i3 | omega⟩, ⟨by first | exact i4 | omega, by first | exact i5 | omega⟩, ⟨by first | exact i6 | omega, by first | exact i7 | omega⟩, by first | exact i8 | omega, ⟨by first | exact i9 | omega, by first | exact i11 | omega⟩, by first | exact i10 | omega, hrt⟩) _) hT (pr := []) (pcs := [wd_Txp cs h r (fun k => if k = 3 then (some hp) else none) f a g]) hw px_X.tt (px_recv hT hw 0 0 rfl rfl rfl) m8_129 m8_126 m8_128 ms_5_13 m1_35 q_Txp_poke ⟨Nat.le_of_ble_eq_true rfl, Nat.le_of_ble_eq_true rfl⟩ hl.1 rfl (Nat.le_of_ble_eq_true rfl) d_Txp_moveWord_8 ⟨Nat.le_of_ble_eq_true rfl, Nat.le_of_ble_eq_true rfl⟩) hw hA (fun p5 H locs hp5 hw => ?_)
  obtain ⟨f3, a4, rfl, h14, e7, e8, e9, e10, e11, e12, e13⟩ := hp5
  obtain ⟨lk, ⟨i2, i3⟩, ⟨i4, i5⟩, ⟨i6, i7⟩, i8, ⟨i9, i11⟩, i10, hrt⟩ := h14
  have e7 : (f3 9).toInt = (f 9).toInt := e7
  have e8 : (f3 17).toInt = (f 17).toInt := e8
  have e9 : (f3 21).toInt = (f 21).toInt := e9
  have e10 : (f3 15).toInt = (f 15).toInt := e10
  have e11 : (f3 20).toInt = (f 20).toInt := e11
  have e12 : (f3 4).toInt = (f 4).toInt := e12
  have e13 : R_Txp_poke z2 p1 f a f3 a4 := e13
  first | exact px_vret S hr hlk hAe hw (Nat.le_of_ble_eq_true rfl) (Nat.le_of_ble_eq_true rfl) (⟨f3, a4, rfl, (show TxOk (f3 4) (f3 5) (f3 8) (f3 9) (f3 17) (f3 21) (a4 2) from ⟨lk, ⟨i2, i3⟩, ⟨i4, i5⟩, ⟨i6, i7⟩, i8, ⟨i9, i11⟩, i10, hrt⟩), (show (f3 9).toInt = (f 9).toInt from e7), (show (f3 17).toInt = (f 17).toInt from e8), (show (f3 21).toInt = (f 21).toInt from e9), (show (f3 15).toInt = (f 15).toInt from e10), (show (f3 20).toInt = (f 20).toInt from e11), (show (f3 4).toInt = (f 4).toInt from e12), (show R_Txp_moveWord p0 p1 f a f3 a4 from (Or.inl ⟨z2, ez2, f3, a4, e13, rfl, rfl⟩))⟩) d_Txp_moveWord_11 | exact px_vret S hr hlk hAe hw (Nat.le_of_ble_eq_true rfl) (Nat.le_of_ble_eq_true rfl) (⟨f3, a4, rfl, (show TxOk (f3 4) (f3 5) (f3 8) (f3 9) (f3 17) (f3 21) (a4 2) from ⟨lk, ⟨by first | exact i2 | omega, by first | exact i3 | omega⟩, ⟨by first | exact i4 | omega, by first | exact i5 | omega⟩, ⟨by first | exact i6 | omega, by first | exact i7 | omega⟩, by first | exact i8 | omega, ⟨by first | exact i9 | omega, by first | exact i11 | omega⟩, by first | exact i10 | omega, hrt⟩), (show (f3 9).toInt = (f 9).toInt from by first | exact e7 | omega), (show (f3 17).toInt = (f 17).toInt from by first | exact e8 | omega), (show (f3 21).toInt = (f 21).toInt from by first | exact e9 | omega), (show (f3 15).toInt = (f 15).toInt from by first | exact e10 | omega), (show (f3 20).toInt = (f 20).toInt from by first | exact e11 | omega), (show (f3 4).toInt = (f 4).toInt from by first | exact e12 | omega), (show R_Txp_moveWord p0 p1 f a f3 a4 from (Or.inl ⟨z2, ez2, f3, a4, e13, rfl, rfl⟩))⟩) d_Txp_moveWord_11
