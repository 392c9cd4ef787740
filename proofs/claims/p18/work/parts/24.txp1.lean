theorem oz_016f458179 {a0 : Int} {n1 : Nat} (h0 : (n1 : Int) = a0) : 0 ≤ a0 := by omega
theorem oz_25a5477edf {a2 a3 : Int} {n0 n1 : Nat} (h0 : (n0 : Int) = a2) (h1 : (n1 : Int) = a3) (h2 : a2 = 3 * a3) : n0 = 3 * n1 := by omega
theorem oz_ae613611c0 {a0 a1 : Int} (h0 : a0 = a1 + 1) (h1 : 0 ≤ a1) : 0 ≤ a0 := by omega
theorem oz_48695ba6d4 {a0 : Int} (h0 : ¬ a0 < (0 : Int)) (h1 : ¬ (8704 : Int) ≤ a0) : 0 ≤ a0 ∧ a0 < ((8704 : Nat) : Int) := by omega
theorem oz_b3b25f0e49 {a0 a1 : Int} (h0 : a0 = a1 + (1 : Int)) (h1 : 0 ≤ a1) : 0 ≤ a0 := by omega
theorem oz_675fb4090f {a0 a1 : Int} (h0 : a0 = a1 + (1 : Int)) (h1 : ¬ (516 : Int) ≤ a1) : a0 ≤ 516 := by omega
theorem oz_c060c3d60c {a0 : Int} (h0 : 0 ≤ a0) (h1 : a0 ≤ (0 : Int)) : 0 ≤ a0 ∧ a0 < ((516 : Nat) : Int) := by omega
theorem oz_b341981ef4 {a0 a1 : Int} (h0 : a0 = a1 - (1 : Int)) (h1 : ¬ a1 ≤ (0 : Int)) (h2 : a1 ≤ 516) : 0 ≤ a0 ∧ a0 < ((516 : Nat) : Int) := by omega
theorem oz_45420e1a93 {a0 a1 : Int} (h0 : a0 = a1 - (1 : Int)) (h1 : ¬ a1 ≤ (0 : Int)) : 0 ≤ a0 := by omega
theorem oz_f3c6005390 {a0 a1 : Int} (h0 : a0 = a1 - (1 : Int)) (h1 : a1 ≤ 516) : a0 ≤ 516 := by omega
theorem oz_e13fc83238 {a0 a1 a2 a3 : Int} (h0 : a2 = a1) (h1 : a0 = a3) (h2 : a3 = a2) : a0 = a1 := by omega
theorem oz_96aae3e9d2 {a0 a1 a2 a3 : Int} (h0 : a0 = a1) (h1 : a1 = a2) (h2 : a2 = a3) (h3 : a3 = 0) (h4 : 0 ≤ a0) : a0 = 0 := by omega
theorem oz_229fe14250 {a0 a1 : Int} (h0 : a0 = a1 - (1 : Int)) (h1 : 0 ≤ a1) (h2 : ¬ a1 = (0 : Int)) : 0 ≤ a0 := by omega
theorem oz_c2ccfb1ff9 {a0 a1 : Int} (h0 : a0 = a1 - (1 : Int)) (h1 : a1 ≤ 100) : a0 ≤ 100 := by omega
theorem oz_3c7696f187 {a0 a1 a2 a3 : Int} (h0 : a0 + a3 + a2 ≤ 100) (h1 : a1 = a3 - (1 : Int)) : a0 + a1 + a2 ≤ 100 := by omega
theorem oz_143d7f65a4 {a0 a1 : Int} (h0 : a0 = a1 - (1 : Int)) : a0 ≤ a1 := by omega
theorem oz_5b5f5658b9 {a0 a1 : Int} (h0 : a0 = a1) : a0 ≤ a1 := by omega
theorem oz_a485ce6081 {a0 a1 : Int} (h0 : a0 = 3 * a1) (h1 : 0 ≤ a1) (h2 : a1 ≤ (0 : Int)) : 0 ≤ a0 ∧ a0 < ((303 : Nat) : Int) := by omega
theorem oz_be54272558 {a0 a1 a2 : Int} (h0 : a0 = a1 + (1 : Int)) (h1 : a1 = 3 * a2) (h2 : 0 ≤ a2) (h3 : a2 ≤ (0 : Int)) : 0 ≤ a0 ∧ a0 < ((303 : Nat) : Int) := by omega
theorem oz_e9c1072bd1 {a0 a1 a2 : Int} (h0 : a0 = a1 + (2 : Int)) (h1 : a1 = 3 * a2) (h2 : 0 ≤ a2) (h3 : a2 ≤ (0 : Int)) : 0 ≤ a0 ∧ a0 < ((303 : Nat) : Int) := by omega
theorem oz_1e53113f2d {a0 a1 a2 : Int} (h0 : a0 = 3 * a1) (h1 : a1 = a2 - (1 : Int)) (h2 : ¬ a2 ≤ (0 : Int)) (h3 : a2 ≤ 101) : 0 ≤ a0 ∧ a0 < ((303 : Nat) : Int) := by omega
theorem oz_1971fd3488 {a0 a1 a2 a3 : Int} (h0 : a0 = a1 + (1 : Int)) (h1 : a1 = 3 * a2) (h2 : a2 = a3 - (1 : Int)) (h3 : ¬ a3 ≤ (0 : Int)) (h4 : a3 ≤ 101) : 0 ≤ a0 ∧ a0 < ((303 : Nat) : Int) := by omega
theorem oz_4e6e9131e1 {a0 a1 a2 a3 : Int} (h0 : a0 = a1 + (2 : Int)) (h1 : a1 = 3 * a2) (h2 : a2 = a3 - (1 : Int)) (h3 : ¬ a3 ≤ (0 : Int)) (h4 : a3 ≤ 101) : 0 ≤ a0 ∧ a0 < ((303 : Nat) : Int) := by omega
theorem oz_ecd2116815 {a0 a1 : Int} (h0 : a0 = a1 - (1 : Int)) (h1 : a1 ≤ 101) : a0 ≤ 101 := by omega
theorem m2_103 : Cond.fieldLink "HomeSystem$Program" 15 "HomeSystem$Program" "functions" "[I" ∈ AL := AL_2 (List.mem_of_getElem? (i := 103) rfl) rfl
theorem m6_213 : Cond.fieldLink "HomeSystem$TextProcess" 9 "HomeSystem$TextProcess" "memory" "[I" ∈ AL := AL_6 (List.mem_of_getElem? (i := 213) rfl) rfl
theorem m6_218 : Cond.fieldLink "HomeSystem$TextProcess" 44 "HomeSystem$TextProcess" "held" "I" ∈ AL := AL_6 (List.mem_of_getElem? (i := 218) rfl) rfl
theorem m6_214 : Cond.fieldLink "HomeSystem$TextProcess" 15 "HomeSystem$TextProcess" "hand" "[I" ∈ AL := AL_6 (List.mem_of_getElem? (i := 214) rfl) rfl
theorem m6_219 : Cond.fieldLink "HomeSystem$TextProcess" 50 "HomeSystem$TextProcess" "frame" "I" ∈ AL := AL_6 (List.mem_of_getElem? (i := 219) rfl) rfl
theorem m8_143 : Cond.methodLink "HomeSystem$TextProcess" 94 ⟨"HomeSystem$TextProcess", "peek", "(I)I"⟩ ∈ AL := AL_8 (List.mem_of_getElem? (i := 143) rfl) rfl
theorem m8_146 : Cond.code ⟨"HomeSystem$TextProcess", "peek", "(I)I"⟩ prog_11_method_8_code 2 (Option.some FieldType.int) ∈ AL := AL_8 (List.mem_of_getElem? (i := 146) rfl) rfl
theorem m1_35 : Cond.initialized "HomeSystem$TextProcess" ∈ AL := AL_1 (List.mem_of_getElem? (i := 35) rfl) rfl
theorem ms_5_15 : Cond.selects "HomeSystem$TextProcess" ⟨"HomeSystem$TextProcess", "peek", "(I)I"⟩ ⟨"HomeSystem$TextProcess", "peek", "(I)I"⟩ ∈ AL := AL_p (q := (⟨"HomeSystem$TextProcess", "peek", "(I)I"⟩, 25)) (by unfold lw_privs; exact List.mem_append_right _ (List.mem_append_right _ (List.mem_append_right _ (List.mem_append_right _ (List.mem_append_left _ (List.mem_of_getElem? (i := 15) rfl))))))
theorem m8_145 : Cond.instanceMethod ⟨"HomeSystem$TextProcess", "peek", "(I)I"⟩ ∈ AL := AL_8 (List.mem_of_getElem? (i := 145) rfl) rfl
theorem m6_225 : Cond.fieldLink "HomeSystem$TextProcess" 149 "HomeSystem$TextProcess" "shift" "I" ∈ AL := AL_6 (List.mem_of_getElem? (i := 225) rfl) rfl
theorem m6_224 : Cond.fieldLink "HomeSystem$TextProcess" 152 "HomeSystem$TextProcess" "cell" "I" ∈ AL := AL_6 (List.mem_of_getElem? (i := 224) rfl) rfl
theorem m8_126 : Cond.methodLink "HomeSystem$TextProcess" 98 ⟨"HomeSystem$TextProcess", "poke", "(II)V"⟩ ∈ AL := AL_8 (List.mem_of_getElem? (i := 126) rfl) rfl
theorem m8_129 : Cond.code ⟨"HomeSystem$TextProcess", "poke", "(II)V"⟩ prog_11_method_9_code 3 (Option.none : Option Jvm.ClassFile.FieldType) ∈ AL := AL_8 (List.mem_of_getElem? (i := 129) rfl) rfl
theorem ms_5_13 : Cond.selects "HomeSystem$TextProcess" ⟨"HomeSystem$TextProcess", "poke", "(II)V"⟩ ⟨"HomeSystem$TextProcess", "poke", "(II)V"⟩ ∈ AL := AL_p (q := (⟨"HomeSystem$TextProcess", "poke", "(II)V"⟩, 25)) (by unfold lw_privs; exact List.mem_append_right _ (List.mem_append_right _ (List.mem_append_right _ (List.mem_append_right _ (List.mem_append_left _ (List.mem_of_getElem? (i := 13) rfl))))))
theorem m8_128 : Cond.instanceMethod ⟨"HomeSystem$TextProcess", "poke", "(II)V"⟩ ∈ AL := AL_8 (List.mem_of_getElem? (i := 128) rfl) rfl
theorem m9_12 : Cond.methodLink "HomeSystem$TextProcess" 119 ⟨"HomeSystem$TextProcess", "pop", "()I"⟩ ∈ AL := AL_9 (List.mem_of_getElem? (i := 12) rfl) rfl
theorem m9_15 : Cond.code ⟨"HomeSystem$TextProcess", "pop", "()I"⟩ prog_11_method_11_code 1 (Option.some FieldType.int) ∈ AL := AL_9 (List.mem_of_getElem? (i := 15) rfl) rfl
theorem ms_7_0 : Cond.selects "HomeSystem$TextProcess" ⟨"HomeSystem$TextProcess", "pop", "()I"⟩ ⟨"HomeSystem$TextProcess", "pop", "()I"⟩ ∈ AL := AL_p (q := (⟨"HomeSystem$TextProcess", "pop", "()I"⟩, 25)) (by unfold lw_privs; exact List.mem_append_right _ (List.mem_append_right _ (List.mem_append_right _ (List.mem_append_right _ (List.mem_append_right _ (List.mem_append_right _ (List.mem_append_left _ (List.mem_of_getElem? (i := 0) rfl))))))))
theorem m9_14 : Cond.instanceMethod ⟨"HomeSystem$TextProcess", "pop", "()I"⟩ ∈ AL := AL_9 (List.mem_of_getElem? (i := 14) rfl) rfl
theorem m9_60n : Cond.methodLinkNest "HomeSystem$TextProcess" 142 ⟨"HomeSystem", "byZero", "(II)Z"⟩ "HomeSystem" ∈ tables_1 := by unfold tables_1; exact List.mem_append_right _ (List.mem_append_right _ (List.mem_append_right _ (List.mem_append_right _ (List.mem_append_right _ (List.mem_append_right _ (List.mem_append_right _ (List.mem_append_right _ (List.mem_append_left _ (List.mem_of_getElem? (i := 60) rfl)))))))))
theorem m5_97 : Cond.code ⟨"HomeSystem", "byZero", "(II)Z"⟩ prog_1_method_22_code 2 (Option.some FieldType.boolean) ∈ AL := AL_5 (List.mem_of_getElem? (i := 97) rfl) rfl
theorem m1_1 : Cond.initialized "HomeSystem" ∈ AL := AL_1 (List.mem_of_getElem? (i := 1) rfl) rfl
theorem m5_96 : Cond.static ⟨"HomeSystem", "byZero", "(II)Z"⟩ ∈ AL := AL_5 (List.mem_of_getElem? (i := 96) rfl) rfl
theorem m9_61n : Cond.methodLinkNest "HomeSystem$TextProcess" 146 ⟨"HomeSystem", "reckon", "(III)I"⟩ "HomeSystem" ∈ tables_1 := by unfold tables_1; exact List.mem_append_right _ (List.mem_append_right _ (List.mem_append_right _ (List.mem_append_right _ (List.mem_append_right _ (List.mem_append_right _ (List.mem_append_right _ (List.mem_append_right _ (List.mem_append_left _ (List.mem_of_getElem? (i := 61) rfl)))))))))
theorem m5_100 : Cond.code ⟨"HomeSystem", "reckon", "(III)I"⟩ prog_1_method_20_code 3 (Option.some FieldType.int) ∈ AL := AL_5 (List.mem_of_getElem? (i := 100) rfl) rfl
theorem m5_99 : Cond.static ⟨"HomeSystem", "reckon", "(III)I"⟩ ∈ AL := AL_5 (List.mem_of_getElem? (i := 99) rfl) rfl
theorem m8_44 : Cond.methodLink "HomeSystem$TextProcess" 74 ⟨"HomeSystem$TextProcess", "push", "(I)V"⟩ ∈ AL := AL_8 (List.mem_of_getElem? (i := 44) rfl) rfl
theorem m8_47 : Cond.code ⟨"HomeSystem$TextProcess", "push", "(I)V"⟩ prog_11_method_10_code 2 (Option.none : Option Jvm.ClassFile.FieldType) ∈ AL := AL_8 (List.mem_of_getElem? (i := 47) rfl) rfl
theorem ms_5_6 : Cond.selects "HomeSystem$TextProcess" ⟨"HomeSystem$TextProcess", "push", "(I)V"⟩ ⟨"HomeSystem$TextProcess", "push", "(I)V"⟩ ∈ AL := AL_p (q := (⟨"HomeSystem$TextProcess", "push", "(I)V"⟩, 25)) (by unfold lw_privs; exact List.mem_append_right _ (List.mem_append_right _ (List.mem_append_right _ (List.mem_append_right _ (List.mem_append_left _ (List.mem_of_getElem? (i := 6) rfl))))))
theorem m8_46 : Cond.instanceMethod ⟨"HomeSystem$TextProcess", "push", "(I)V"⟩ ∈ AL := AL_8 (List.mem_of_getElem? (i := 46) rfl) rfl
theorem m9_5 : Cond.methodLink "HomeSystem$TextProcess" 105 ⟨"HomeSystem$TextProcess", "finish", "(II)V"⟩ ∈ AL := AL_9 (List.mem_of_getElem? (i := 5) rfl) rfl
theorem m9_6 : Cond.sameMethod "HomeSystem$TextProcess" "HomeSystem$AnyProcess" "finish" "(II)V" ∈ AL := AL_9 (List.mem_of_getElem? (i := 6) rfl) rfl
theorem m9_7 : Cond.selects "HomeSystem$TextProcess" ⟨"HomeSystem$TextProcess", "finish", "(II)V"⟩ ⟨"HomeSystem$AnyProcess", "finish", "(II)V"⟩ ∈ AL := AL_9 (List.mem_of_getElem? (i := 7) rfl) rfl
theorem m6_222 : Cond.fieldLink "HomeSystem$TextProcess" 29 "HomeSystem$TextProcess" "work" "I" ∈ AL := AL_6 (List.mem_of_getElem? (i := 222) rfl) rfl
theorem m6_221 : Cond.fieldLink "HomeSystem$TextProcess" 47 "HomeSystem$TextProcess" "depth" "I" ∈ AL := AL_6 (List.mem_of_getElem? (i := 221) rfl) rfl
theorem m6_215 : Cond.fieldLink "HomeSystem$TextProcess" 18 "HomeSystem$TextProcess" "returns" "[I" ∈ AL := AL_6 (List.mem_of_getElem? (i := 215) rfl) rfl
theorem m6_217 : Cond.fieldLink "HomeSystem$TextProcess" 41 "HomeSystem$TextProcess" "pc" "I" ∈ AL := AL_6 (List.mem_of_getElem? (i := 217) rfl) rfl
theorem m6_220 : Cond.fieldLink "HomeSystem$TextProcess" 53 "HomeSystem$TextProcess" "top" "I" ∈ AL := AL_6 (List.mem_of_getElem? (i := 220) rfl) rfl
theorem m6_223 : Cond.fieldLink "HomeSystem$TextProcess" 33 "HomeSystem$TextProcess" "stack" "I" ∈ AL := AL_6 (List.mem_of_getElem? (i := 223) rfl) rfl
theorem m6_227 : Cond.fieldLink "HomeSystem$TextProcess" 88 "HomeSystem$TextProcess" "rowSize" "I" ∈ AL := AL_6 (List.mem_of_getElem? (i := 227) rfl) rfl
theorem m6_226 : Cond.fieldLink "HomeSystem$TextProcess" 91 "HomeSystem$TextProcess" "rowFrom" "I" ∈ AL := AL_6 (List.mem_of_getElem? (i := 226) rfl) rfl
theorem m6_162 : Cond.fieldLink "HomeSystem$TextProcess" 177 "HomeSystem$TextProcess" "first" "I" ∈ AL := AL_6 (List.mem_of_getElem? (i := 162) rfl) rfl
theorem m6_163 : Cond.sameField "HomeSystem$TextProcess" "HomeSystem$AnyProcess" "first" "I" ∈ AL := AL_6 (List.mem_of_getElem? (i := 163) rfl) rfl
theorem m6_159 : Cond.fieldLink "HomeSystem$TextProcess" 180 "HomeSystem$TextProcess" "which" "I" ∈ AL := AL_6 (List.mem_of_getElem? (i := 159) rfl) rfl
theorem m6_160 : Cond.sameField "HomeSystem$TextProcess" "HomeSystem$AnyProcess" "which" "I" ∈ AL := AL_6 (List.mem_of_getElem? (i := 160) rfl) rfl
theorem m6_153 : Cond.fieldLink "HomeSystem$TextProcess" 81 "HomeSystem$TextProcess" "calling" "Z" ∈ AL := AL_6 (List.mem_of_getElem? (i := 153) rfl) rfl
theorem m6_154 : Cond.sameField "HomeSystem$TextProcess" "HomeSystem$AnyProcess" "calling" "Z" ∈ AL := AL_6 (List.mem_of_getElem? (i := 154) rfl) rfl
theorem m6_167 : Cond.fieldLink "HomeSystem$TextProcess" 174 "HomeSystem$TextProcess" "second" "I" ∈ AL := AL_6 (List.mem_of_getElem? (i := 167) rfl) rfl
theorem m6_168 : Cond.sameField "HomeSystem$TextProcess" "HomeSystem$AnyProcess" "second" "I" ∈ AL := AL_6 (List.mem_of_getElem? (i := 168) rfl) rfl
theorem m7_50 : Cond.methodLink "HomeSystem$TextProcess" 59 ⟨"java/lang/Math", "min", "(II)I"⟩ ∈ AL := AL_7 (List.mem_of_getElem? (i := 50) rfl) rfl
theorem va_up_s {α : Type} {f : Nat → α} {k : Nat} {v : α} : va_up f k v k = v := by simp [va_up]
theorem va_up_n {α : Type} {f : Nat → α} {k j : Nat} {v : α} (h : j ≠ k) : va_up f k v j = f j := by simp [va_up, h]
theorem z_rng {v : Int32} (h : v = 0 ∨ v = 1) : 0 ≤ v.toInt ∧ v.toInt ≤ 1 := by
  rcases h with h | h <;> rw [h]
  · exact ⟨by decide, by decide⟩
  · exact ⟨by decide, by decide⟩
/-- where a text's process may go on -/
def Lk (x : Int32) : Prop := x.toInt < 0 ∨ (x.toInt % 4 = 0 ∧ x.toInt ≤ 100000)
theorem lk_mk {x : Int32} (h : x.toInt < 0 ∨ (x.toInt % 4 = 0 ∧ x.toInt ≤ 100000)) : Lk x := h
def RtOk (rt : Nat → Int32) : Prop := ∀ j : Nat, Lk (rt (3 * j))
def CodeOk (cd : Nat → Int32) : Prop := ∀ j : Nat, (15 ≤ (cd (4 * j) &&& 255).toInt → (cd (4 * j) &&& 255).toInt ≤ 20 → Lk (cd (4 * j + 1))) ∧ ((cd (4 * j) &&& 255).toInt = 22 → 0 ≤ (cd (4 * j + 1)).toInt ∧ (cd (4 * j + 1)).toInt ≤ 1000000)
def TxOk (x4 x5 x8 x9 x17 x21 : Int32) (rt : Nat → Int32) : Prop := Lk x4 ∧ (0 ≤ x5.toInt ∧ x5.toInt ≤ 516) ∧ (0 ≤ x8.toInt ∧ x8.toInt ≤ 101) ∧ (0 ≤ x9.toInt ∧ x9.toInt ≤ 100) ∧ 0 ≤ x17.toInt ∧ (0 ≤ x21.toInt ∧ x21.toInt ≤ 1) ∧ x17.toInt + x9.toInt + x21.toInt ≤ 100 ∧ RtOk rt
theorem cl_nat {x : Int32} (h : 0 ≤ x.toInt) : (x.toNatClampNeg : Int) = x.toInt := by
  show ((x.toInt.toNat : Nat) : Int) = x.toInt
  omega
theorem rt_at {rt : Nat → Int32} (h : RtOk rt) {x d z : Int32} (hx : x.toInt = 3 * d.toInt) (hd : 0 ≤ d.toInt) (e : z = rt x.toNatClampNeg) : Lk z := by
  first | have h1 := cl_nat (x := x) ((oz_016f458179 h1)) | have h1 := cl_nat (x := x) (by first | exact oz_016f458179 h1 | omega)
  have h2 := cl_nat hd
  first | have h3 : x.toNatClampNeg = 3 * d.toNatClampNeg := (oz_25a5477edf h1 h2 hx) | have h3 : x.toNatClampNeg = 3 * d.toNatClampNeg := by first | exact oz_25a5477edf h1 h2 hx | omega
  rw [e, h3]
  exact h _
theorem rt_up {rt : Nat → Int32} (h : RtOk rt) {x z : Int32} (hz : Lk z) : RtOk (upd rt x.toNatClampNeg z) := by
  intro j
  by_cases hj : 3 * j = x.toNatClampNeg
  · rw [hj, pk_us]; exact hz
  · rw [pk_un hj]; exact h j
theorem rt_un {rt : Nat → Int32} (h : RtOk rt) {x z : Int32} (h0 : 0 ≤ x.toInt) (h3 : x.toInt % 3 ≠ 0) : RtOk (upd rt x.toNatClampNeg z) := by
  intro j
  have h1 := cl_nat h0
  rw [pk_un (by omega)]
  exact h j
theorem code_at {cd : Nat → Int32} (h : CodeOk cd) {x y o z a : Int32} (h0 : 0 ≤ x.toInt) (h4 : x.toInt % 4 = 0) (hy : y.toInt = x.toInt + 1) (eo : o = cd x.toNatClampNeg) (ez : z = o &&& 255) (ea : a = cd y.toNatClampNeg) : (15 ≤ z.toInt → z.toInt ≤ 20 → Lk a) ∧ (z.toInt = 22 → 0 ≤ a.toInt ∧ a.toInt ≤ 1000000) := by
  have h1 := cl_nat h0
  first | have h2 := cl_nat (x := y) ((oz_ae613611c0 hy h0)) | have h2 := cl_nat (x := y) (by first | exact oz_ae613611c0 hy h0 | omega)
  have e1 : x.toNatClampNeg = 4 * (x.toNatClampNeg / 4) := by omega
  have e2 : y.toNatClampNeg = 4 * (x.toNatClampNeg / 4) + 1 := by omega
  have h3 := h (x.toNatClampNeg / 4)
  rw [← e2, ← e1, ← eo, ← ez, ← ea] at h3
  exact h3
theorem fun_at {fd : Nat → Int32} (h : RtOk fd) {x z : Int32} (hx : x.toInt % 3 = 0) (h0 : 0 ≤ x.toInt) (e : z = fd x.toNatClampNeg) : Lk z := by
  have h1 := cl_nat h0
  have h3 : x.toNatClampNeg = 3 * (x.toNatClampNeg / 3) := by omega
  rw [e, h3]
  exact h _
theorem sw_memK : ∀ (ps : List (Int × Int)) (d v : Int), Op.lookupswitch.offset ps d v = d ∨ ∃ q ∈ ps, q.1 = v ∧ Op.lookupswitch.offset ps d v = q.2
  | [], d, v => Or.inl rfl
  | (a, o) :: r, d, v => by
    rw [Op.lookupswitch.offset_cons]
    by_cases h : a = v
    · rw [if_pos h]
      exact Or.inr ⟨(a, o), List.mem_cons_self, h, rfl⟩
    · rw [if_neg h]
      rcases sw_memK r d v with h | ⟨q, h1, h2, h3⟩
      · exact Or.inl h
      · exact Or.inr ⟨q, List.mem_cons_of_mem _ h1, h2, h3⟩
section SWK
variable {p : Program} {l : Launch} {e : Env} {R : Room} {s : State} {m : MethodId} {args : Array Value} {below : List Frame} {meth : Method} {c : Code} {H : Heap} {locs : List Loc} {cells slots : Nat} {Q : State → Prop}
variable {cc : ByteArray} {pc nL : Nat} {ls : Array Slot} {rest : List Value} {own : String}
theorem px_lookupK (S : px_S p m c cc nL s args own) {dflt : Int} {ps : Array (Int × Int)} {len dt : Nat} {x : Int32} (tgts : List (Nat × List Int)) (hdg : decode cc pc = .ok (.lookupswitch dflt ps, len)) (hp : (ps.toList.zip (ps.toList.drop 1)).all (fun (a, next) => a.1 < next.1) = true) (hd : (pc : Int) + dflt = (dt : Int)) (hall : ps.toList.all (fun q => tgts.any (fun t => decide ((pc : Int) + q.2 = (t.1 : Int)) && t.2.contains q.1)) = true)
    (kd : W p l e R s m args below meth c H locs cells slots Q (F0 m dt ls rest)) (kk : ∀ t ∈ tgts, x.toInt ∈ t.2 → W p l e R s m args below meth c H locs cells slots Q (F0 m t.1 ls rest)) : W p l e R s m args below meth c H locs cells slots Q (F0 m pc ls (.int x :: rest)) := by
  rcases sw_memK ps.toList dflt x.toInt with h | ⟨q, h1, h2, h3⟩
  · exact lv_lookup S.x S.b hdg hp h hd kd
  · have h4 := List.all_eq_true.mp hall q h1
    obtain ⟨t, ht, he⟩ := List.any_eq_true.mp h4
    simp only [Bool.and_eq_true, decide_eq_true_eq] at he
    exact lv_lookup S.x S.b hdg hp h3 he.1 (kk t ht (by rw [← h2]; exact List.contains_iff_mem.mp he.2))
theorem px_tableK (S : px_S p m c cc nL s args own) {dflt lo hi : Int} {offs : Array Int} {len dt : Nat} {x : Int32} (tgts : List (Nat × List Int)) (hdg : decode cc pc = .ok (.tableswitch dflt lo hi offs, len)) (hsz : (hi - lo + 1).toNat = offs.size) (hd : (pc : Int) + dflt = (dt : Int)) (hall : (List.range offs.size).all (fun i => tgts.any (fun t => decide ((pc : Int) + offs.toList.getD i 0 = (t.1 : Int)) && t.2.contains (lo + (i : Int)))) = true)
    (kd : W p l e R s m args below meth c H locs cells slots Q (F0 m dt ls rest)) (kk : ∀ t ∈ tgts, x.toInt ∈ t.2 → W p l e R s m args below meth c H locs cells slots Q (F0 m t.1 ls rest)) : W p l e R s m args below meth c H locs cells slots Q (F0 m pc ls (.int x :: rest)) := by
  by_cases h : x.toInt < lo ∨ hi < x.toInt
  · exact lv_tableOut S.x S.b hdg h hd kd
  · have h2 : ¬ x.toInt < lo := fun q => h (Or.inl q)
    have h3 : ¬ hi < x.toInt := fun q => h (Or.inr q)
    have hlt : (x.toInt - lo).toNat < offs.size := by omega
    have h4 := List.all_eq_true.mp hall _ (List.mem_range.mpr hlt)
    obtain ⟨t, ht, he⟩ := List.any_eq_true.mp h4
    simp only [Bool.and_eq_true, decide_eq_true_eq] at he
    have e1 : offs.toList.getD (x.toInt - lo).toNat 0 = offs[(x.toInt - lo).toNat] := by
      rw [List.getD_eq_getElem?_getD, List.getElem?_eq_getElem (by simpa using hlt)]
      simp
    have e2 : lo + (((x.toInt - lo).toNat : Nat) : Int) = x.toInt := by omega
    rw [e1, e2] at he
    exact lv_tableIn S.x S.b hdg h2 h3 (Array.getElem?_eq_getElem hlt) he.1 (kk t ht (List.contains_iff_mem.mp he.2))
end SWK
def wd_Prg (cs : Nat → ClassId) (h : Nat) (r : Nat → Nat) (o : Nat → Option Nat) (f : Nat → Int32) (a : Nat → Nat → Int32) (g : Nat → Nat → Option Nat) : va_W := [(h, .inr (4, [.int (f 0), .ref (r 1), va_rf (o 2), .int (f 3), .int (f 4), .int (f 5)]))]
theorem ga_Txp_0 (cs : Nat → ClassId) (h : Nat) (r : Nat → Nat) (o : Nat → Option Nat) (f : Nat → Int32) (a : Nat → Nat → Int32) (g : Nat → Nat → Option Nat) : (wd_Txp cs h r o f a g)[1]? = some (r 0, .inl (cs 0, 8704, .inl (a 0))) := rfl
theorem sa_Txp_0 (cs : Nat → ClassId) (h : Nat) (r : Nat → Nat) (o : Nat → Option Nat) (f : Nat → Int32) (a : Nat → Nat → Int32) (g : Nat → Nat → Option Nat) (X : Nat → Int32) : (wd_Txp cs h r o f a g).set 1 (r 0, .inl (cs 0, 8704, .inl X)) = wd_Txp cs h r o f (va_up a 0 X) g := rfl
theorem ga_Txp_1 (cs : Nat → ClassId) (h : Nat) (r : Nat → Nat) (o : Nat → Option Nat) (f : Nat → Int32) (a : Nat → Nat → Int32) (g : Nat → Nat → Option Nat) : (wd_Txp cs h r o f a g)[2]? = some (r 1, .inl (cs 0, 516, .inl (a 1))) := rfl
theorem sa_Txp_1 (cs : Nat → ClassId) (h : Nat) (r : Nat → Nat) (o : Nat → Option Nat) (f : Nat → Int32) (a : Nat → Nat → Int32) (g : Nat → Nat → Option Nat) (X : Nat → Int32) : (wd_Txp cs h r o f a g).set 2 (r 1, .inl (cs 0, 516, .inl X)) = wd_Txp cs h r o f (va_up a 1 X) g := rfl
theorem ga_Txp_2 (cs : Nat → ClassId) (h : Nat) (r : Nat → Nat) (o : Nat → Option Nat) (f : Nat → Int32) (a : Nat → Nat → Int32) (g : Nat → Nat → Option Nat) : (wd_Txp cs h r o f a g)[3]? = some (r 2, .inl (cs 0, 303, .inl (a 2))) := rfl
theorem sa_Txp_2 (cs : Nat → ClassId) (h : Nat) (r : Nat → Nat) (o : Nat → Option Nat) (f : Nat → Int32) (a : Nat → Nat → Int32) (g : Nat → Nat → Option Nat) (X : Nat → Int32) : (wd_Txp cs h r o f a g).set 3 (r 2, .inl (cs 0, 303, .inl X)) = wd_Txp cs h r o f (va_up a 2 X) g := rfl
theorem ga_Txp_16 (cs : Nat → ClassId) (h : Nat) (r : Nat → Nat) (o : Nat → Option Nat) (f : Nat → Int32) (a : Nat → Nat → Int32) (g : Nat → Nat → Option Nat) : (wd_Txp cs h r o f a g)[4]? = some (r 16, .inl (cs 0, 256, .inl (a 16))) := rfl
theorem sa_Txp_16 (cs : Nat → ClassId) (h : Nat) (r : Nat → Nat) (o : Nat → Option Nat) (f : Nat → Int32) (a : Nat → Nat → Int32) (g : Nat → Nat → Option Nat) (X : Nat → Int32) : (wd_Txp cs h r o f a g).set 4 (r 16, .inl (cs 0, 256, .inl X)) = wd_Txp cs h r o f (va_up a 16 X) g := rfl
abbrev b_Hs_reckon : ByteArray := prog_1_method_20_code
def y_Hs_reckon : MethodName := ⟨"HomeSystem", "reckon", "(III)I"⟩
theorem d_Hs_reckon_0 : decode b_Hs_reckon 0 = .ok (.iload_n 0, 1) := by decide +kernel
theorem d_Hs_reckon_1 : decode b_Hs_reckon 1 = .ok (.lookupswitch 248 #[(37, 155), (38, 167), (42, 139), (43, 131), (45, 135), (47, 143), (60, 193), (62, 204), (94, 175), (124, 171), (130, 237), (132, 215), (133, 226), (134, 179), (135, 186)], 131) := by decide +kernel
theorem d_Hs_reckon_132 : decode b_Hs_reckon 132 = .ok (.iload_n 1, 1) := by decide +kernel
theorem d_Hs_reckon_133 : decode b_Hs_reckon 133 = .ok (.iload_n 2, 1) := by decide +kernel
theorem d_Hs_reckon_134 : decode b_Hs_reckon 134 = .ok (.iadd, 1) := by decide +kernel
theorem d_Hs_reckon_135 : decode b_Hs_reckon 135 = .ok (.ireturn, 1) := by decide +kernel
theorem d_Hs_reckon_136 : decode b_Hs_reckon 136 = .ok (.iload_n 1, 1) := by decide +kernel
theorem d_Hs_reckon_137 : decode b_Hs_reckon 137 = .ok (.iload_n 2, 1) := by decide +kernel
theorem d_Hs_reckon_138 : decode b_Hs_reckon 138 = .ok (.isub, 1) := by decide +kernel
theorem d_Hs_reckon_139 : decode b_Hs_reckon 139 = .ok (.ireturn, 1) := by decide +kernel
theorem d_Hs_reckon_140 : decode b_Hs_reckon 140 = .ok (.iload_n 1, 1) := by decide +kernel
theorem d_Hs_reckon_141 : decode b_Hs_reckon 141 = .ok (.iload_n 2, 1) := by decide +kernel
theorem d_Hs_reckon_142 : decode b_Hs_reckon 142 = .ok (.imul, 1) := by decide +kernel
theorem d_Hs_reckon_143 : decode b_Hs_reckon 143 = .ok (.ireturn, 1) := by decide +kernel
theorem d_Hs_reckon_144 : decode b_Hs_reckon 144 = .ok (.iload_n 2, 1) := by decide +kernel
theorem d_Hs_reckon_145 : decode b_Hs_reckon 145 = .ok (.ifCond .ne 7, 3) := by decide +kernel
theorem d_Hs_reckon_148 : decode b_Hs_reckon 148 = .ok (.iconst 0, 1) := by decide +kernel
theorem d_Hs_reckon_149 : decode b_Hs_reckon 149 = .ok (.goto 6, 3) := by decide +kernel
theorem d_Hs_reckon_152 : decode b_Hs_reckon 152 = .ok (.iload_n 1, 1) := by decide +kernel
theorem d_Hs_reckon_153 : decode b_Hs_reckon 153 = .ok (.iload_n 2, 1) := by decide +kernel
theorem d_Hs_reckon_154 : decode b_Hs_reckon 154 = .ok (.idiv, 1) := by decide +kernel
theorem d_Hs_reckon_155 : decode b_Hs_reckon 155 = .ok (.ireturn, 1) := by decide +kernel
theorem d_Hs_reckon_156 : decode b_Hs_reckon 156 = .ok (.iload_n 2, 1) := by decide +kernel
theorem d_Hs_reckon_157 : decode b_Hs_reckon 157 = .ok (.ifCond .ne 7, 3) := by decide +kernel
theorem d_Hs_reckon_160 : decode b_Hs_reckon 160 = .ok (.iconst 0, 1) := by decide +kernel
theorem d_Hs_reckon_161 : decode b_Hs_reckon 161 = .ok (.goto 6, 3) := by decide +kernel
theorem d_Hs_reckon_164 : decode b_Hs_reckon 164 = .ok (.iload_n 1, 1) := by decide +kernel
theorem d_Hs_reckon_165 : decode b_Hs_reckon 165 = .ok (.iload_n 2, 1) := by decide +kernel
theorem d_Hs_reckon_166 : decode b_Hs_reckon 166 = .ok (.irem, 1) := by decide +kernel
theorem d_Hs_reckon_167 : decode b_Hs_reckon 167 = .ok (.ireturn, 1) := by decide +kernel
theorem d_Hs_reckon_168 : decode b_Hs_reckon 168 = .ok (.iload_n 1, 1) := by decide +kernel
theorem d_Hs_reckon_169 : decode b_Hs_reckon 169 = .ok (.iload_n 2, 1) := by decide +kernel
theorem d_Hs_reckon_170 : decode b_Hs_reckon 170 = .ok (.iand, 1) := by decide +kernel
theorem d_Hs_reckon_171 : decode b_Hs_reckon 171 = .ok (.ireturn, 1) := by decide +kernel
theorem d_Hs_reckon_172 : decode b_Hs_reckon 172 = .ok (.iload_n 1, 1) := by decide +kernel
theorem d_Hs_reckon_173 : decode b_Hs_reckon 173 = .ok (.iload_n 2, 1) := by decide +kernel
theorem d_Hs_reckon_174 : decode b_Hs_reckon 174 = .ok (.ior, 1) := by decide +kernel
theorem d_Hs_reckon_175 : decode b_Hs_reckon 175 = .ok (.ireturn, 1) := by decide +kernel
theorem d_Hs_reckon_176 : decode b_Hs_reckon 176 = .ok (.iload_n 1, 1) := by decide +kernel
theorem d_Hs_reckon_177 : decode b_Hs_reckon 177 = .ok (.iload_n 2, 1) := by decide +kernel
theorem d_Hs_reckon_178 : decode b_Hs_reckon 178 = .ok (.ixor, 1) := by decide +kernel
theorem d_Hs_reckon_179 : decode b_Hs_reckon 179 = .ok (.ireturn, 1) := by decide +kernel
theorem d_Hs_reckon_180 : decode b_Hs_reckon 180 = .ok (.iload_n 1, 1) := by decide +kernel
theorem d_Hs_reckon_181 : decode b_Hs_reckon 181 = .ok (.iload_n 2, 1) := by decide +kernel
theorem d_Hs_reckon_182 : decode b_Hs_reckon 182 = .ok (.bipush 31, 2) := by decide +kernel
theorem d_Hs_reckon_184 : decode b_Hs_reckon 184 = .ok (.iand, 1) := by decide +kernel
theorem d_Hs_reckon_185 : decode b_Hs_reckon 185 = .ok (.ishl, 1) := by decide +kernel
theorem d_Hs_reckon_186 : decode b_Hs_reckon 186 = .ok (.ireturn, 1) := by decide +kernel
theorem d_Hs_reckon_187 : decode b_Hs_reckon 187 = .ok (.iload_n 1, 1) := by decide +kernel
theorem d_Hs_reckon_188 : decode b_Hs_reckon 188 = .ok (.iload_n 2, 1) := by decide +kernel
theorem d_Hs_reckon_189 : decode b_Hs_reckon 189 = .ok (.bipush 31, 2) := by decide +kernel
theorem d_Hs_reckon_191 : decode b_Hs_reckon 191 = .ok (.iand, 1) := by decide +kernel
theorem d_Hs_reckon_192 : decode b_Hs_reckon 192 = .ok (.ishr, 1) := by decide +kernel
theorem d_Hs_reckon_193 : decode b_Hs_reckon 193 = .ok (.ireturn, 1) := by decide +kernel
theorem d_Hs_reckon_194 : decode b_Hs_reckon 194 = .ok (.iload_n 1, 1) := by decide +kernel
theorem d_Hs_reckon_195 : decode b_Hs_reckon 195 = .ok (.iload_n 2, 1) := by decide +kernel
theorem d_Hs_reckon_196 : decode b_Hs_reckon 196 = .ok (.if_icmp .ge 7, 3) := by decide +kernel
theorem d_Hs_reckon_199 : decode b_Hs_reckon 199 = .ok (.iconst 1, 1) := by decide +kernel
theorem d_Hs_reckon_200 : decode b_Hs_reckon 200 = .ok (.goto 4, 3) := by decide +kernel
theorem d_Hs_reckon_203 : decode b_Hs_reckon 203 = .ok (.iconst 0, 1) := by decide +kernel
theorem d_Hs_reckon_204 : decode b_Hs_reckon 204 = .ok (.ireturn, 1) := by decide +kernel
theorem d_Hs_reckon_205 : decode b_Hs_reckon 205 = .ok (.iload_n 1, 1) := by decide +kernel
theorem d_Hs_reckon_206 : decode b_Hs_reckon 206 = .ok (.iload_n 2, 1) := by decide +kernel
theorem d_Hs_reckon_207 : decode b_Hs_reckon 207 = .ok (.if_icmp .le 7, 3) := by decide +kernel
theorem d_Hs_reckon_210 : decode b_Hs_reckon 210 = .ok (.iconst 1, 1) := by decide +kernel
theorem d_Hs_reckon_211 : decode b_Hs_reckon 211 = .ok (.goto 4, 3) := by decide +kernel
theorem d_Hs_reckon_214 : decode b_Hs_reckon 214 = .ok (.iconst 0, 1) := by decide +kernel
theorem d_Hs_reckon_215 : decode b_Hs_reckon 215 = .ok (.ireturn, 1) := by decide +kernel
theorem d_Hs_reckon_216 : decode b_Hs_reckon 216 = .ok (.iload_n 1, 1) := by decide +kernel
theorem d_Hs_reckon_217 : decode b_Hs_reckon 217 = .ok (.iload_n 2, 1) := by decide +kernel
theorem d_Hs_reckon_218 : decode b_Hs_reckon 218 = .ok (.if_icmp .gt 7, 3) := by decide +kernel
theorem d_Hs_reckon_221 : decode b_Hs_reckon 221 = .ok (.iconst 1, 1) := by decide +kernel
theorem d_Hs_reckon_222 : decode b_Hs_reckon 222 = .ok (.goto 4, 3) := by decide +kernel
theorem d_Hs_reckon_225 : decode b_Hs_reckon 225 = .ok (.iconst 0, 1) := by decide +kernel
theorem d_Hs_reckon_226 : decode b_Hs_reckon 226 = .ok (.ireturn, 1) := by decide +kernel
theorem d_Hs_reckon_227 : decode b_Hs_reckon 227 = .ok (.iload_n 1, 1) := by decide +kernel
theorem d_Hs_reckon_228 : decode b_Hs_reckon 228 = .ok (.iload_n 2, 1) := by decide +kernel
theorem d_Hs_reckon_229 : decode b_Hs_reckon 229 = .ok (.if_icmp .lt 7, 3) := by decide +kernel
theorem d_Hs_reckon_232 : decode b_Hs_reckon 232 = .ok (.iconst 1, 1) := by decide +kernel
theorem d_Hs_reckon_233 : decode b_Hs_reckon 233 = .ok (.goto 4, 3) := by decide +kernel
theorem d_Hs_reckon_236 : decode b_Hs_reckon 236 = .ok (.iconst 0, 1) := by decide +kernel
theorem d_Hs_reckon_237 : decode b_Hs_reckon 237 = .ok (.ireturn, 1) := by decide +kernel
theorem d_Hs_reckon_238 : decode b_Hs_reckon 238 = .ok (.iload_n 1, 1) := by decide +kernel
theorem d_Hs_reckon_239 : decode b_Hs_reckon 239 = .ok (.iload_n 2, 1) := by decide +kernel
theorem d_Hs_reckon_240 : decode b_Hs_reckon 240 = .ok (.if_icmp .ne 7, 3) := by decide +kernel
theorem d_Hs_reckon_243 : decode b_Hs_reckon 243 = .ok (.iconst 1, 1) := by decide +kernel
theorem d_Hs_reckon_244 : decode b_Hs_reckon 244 = .ok (.goto 4, 3) := by decide +kernel
theorem d_Hs_reckon_247 : decode b_Hs_reckon 247 = .ok (.iconst 0, 1) := by decide +kernel
theorem d_Hs_reckon_248 : decode b_Hs_reckon 248 = .ok (.ireturn, 1) := by decide +kernel
theorem d_Hs_reckon_249 : decode b_Hs_reckon 249 = .ok (.iload_n 1, 1) := by decide +kernel
theorem d_Hs_reckon_250 : decode b_Hs_reckon 250 = .ok (.iload_n 2, 1) := by decide +kernel
theorem d_Hs_reckon_251 : decode b_Hs_reckon 251 = .ok (.if_icmp .eq 7, 3) := by decide +kernel
theorem d_Hs_reckon_254 : decode b_Hs_reckon 254 = .ok (.iconst 1, 1) := by decide +kernel
theorem d_Hs_reckon_255 : decode b_Hs_reckon 255 = .ok (.goto 4, 3) := by decide +kernel
theorem d_Hs_reckon_258 : decode b_Hs_reckon 258 = .ok (.iconst 0, 1) := by decide +kernel
theorem d_Hs_reckon_259 : decode b_Hs_reckon 259 = .ok (.ireturn, 1) := by decide +kernel
theorem q_Hs_reckon : px_y y_Hs_reckon 3 := by unfold px_y; decide +kernel
set_option maxHeartbeats 4000000 in
set_option maxRecDepth 100000 in
theorem c_Hs_reckon (l : Launch) (D : va_G) (cs : Nat → ClassId)  (p0 p1 p2 : Int32)   : MetI l y_Hs_reckon b_Hs_reckon 3 (.int) D cs 0 0 (0) (0) [.int p0, .int p1, .int p2] [] (fun _ => True) (fun v ps => (ps = [])) := by
  refine px_enter (by decide) (Nat.le_of_ble_eq_true rfl) ?_
  intro p e s m below meth c A ls hAe S hr hlk hnm hA hT hX hw hl
  have hl : lv_has ls 3 [(0, .int p0), (1, .int p1), (2, .int p2)] := hl
  have lp0 := Int32.le_toInt p0
  have up0 := Int32.toInt_lt p0
  have lp1 := Int32.le_toInt p1
  have up1 := Int32.toInt_lt p1
  have lp2 := Int32.le_toInt p2
  have up2 := Int32.toInt_lt p2
  have cst0 : (0 : Int32).toInt = 0 := rfl
  have cst1 : (1 : Int32).toInt = 1 := rfl
  have cst31 : (31 : Int32).toInt = 31 := rfl
  refine lv_iload_n S.x S.b d_Hs_reckon_0 rfl (lv_at hl 0 rfl) ?_
  refine px_lookupK S (dt := 249) [(156, [37]), (168, [38]), (140, [42]), (132, [43]), (136, [45]), (144, [47]), (194, [60]), (205, [62]), (176, [94]), (172, [124]), (238, [130]), (216, [132]), (227, [133]), (180, [134]), (187, [135])] d_Hs_reckon_1 (by decide +kernel) (by decide) (by decide +kernel) ?_ ?_
  ·
    refine lv_iload_n S.x S.b d_Hs_reckon_249 rfl (lv_at hl 1 rfl) ?_
    refine lv_iload_n S.x S.b d_Hs_reckon_250 rfl (lv_at hl 2 rfl) ?_
    refine lv_icmp_eq (tgt := 258) S.x S.b d_Hs_reckon_251 (by decide) (fun c1 => ?_) (fun c1 => ?_)
    · have nc1 : p1.toInt = p2.toInt := (i_eq (x := p1) (y := p2)).mp c1
      refine lv_iconst (v := 0) S.x S.b d_Hs_reckon_258 (by decide) ?_
      exact px_iret (v := 0) S hr rfl hlk hAe hw (Nat.le_of_ble_eq_true rfl) (Nat.le_of_ble_eq_true rfl) (rfl) d_Hs_reckon_259
    · have nc1 : ¬ p1.toInt = p2.toInt := mt (i_eq (x := p1) (y := p2)).mpr c1
      refine lv_iconst (v := 1) S.x S.b d_Hs_reckon_254 (by decide) ?_
      refine lv_goto (tgt := 259) S.x S.b d_Hs_reckon_255 (by decide) ?_
      exact px_iret (v := 1) S hr rfl hlk hAe hw (Nat.le_of_ble_eq_true rfl) (Nat.le_of_ble_eq_true rfl) (rfl) d_Hs_reckon_259
  · refine List.forall_mem_cons.mpr ⟨fun c2 => ?_, List.forall_mem_cons.mpr ⟨fun c2 => ?_, List.forall_mem_cons.mpr ⟨fun c2 => ?_, List.forall_mem_cons.mpr ⟨fun c2 => ?_, List.forall_mem_cons.mpr ⟨fun c2 => ?_, List.forall_mem_cons.mpr ⟨fun c2 => ?_, List.forall_mem_cons.mpr ⟨fun c2 => ?_, List.forall_mem_cons.mpr ⟨fun c2 => ?_, List.forall_mem_cons.mpr ⟨fun c2 => ?_, List.forall_mem_cons.mpr ⟨fun c2 => ?_, List.forall_mem_cons.mpr ⟨fun c2 => ?_, List.forall_mem_cons.mpr ⟨fun c2 => ?_, List.forall_mem_cons.mpr ⟨fun c2 => ?_, List.forall_mem_cons.mpr ⟨fun c2 => ?_, List.forall_mem_cons.mpr ⟨fun c2 => ?_, fun _ h => absurd h List.not_mem_nil⟩⟩⟩⟩⟩⟩⟩⟩⟩⟩⟩⟩⟩⟩⟩
    · simp only [List.mem_cons, List.not_mem_nil, or_false] at c2
      refine lv_iload_n S.x S.b d_Hs_reckon_156 rfl (lv_at hl 2 rfl) ?_
      refine lv_if_ne (tgt := 164) S.x S.b d_Hs_reckon_157 (by decide) (fun c3 => ?_) (fun c3 => ?_)
      · have nc3 : ¬ p2.toInt = (0 : Int) := mt (i_eq (x := p2) (y := 0)).mpr c3
        refine lv_iload_n S.x S.b d_Hs_reckon_164 rfl (lv_at hl 1 rfl) ?_
        refine lv_iload_n S.x S.b d_Hs_reckon_165 rfl (lv_at hl 2 rfl) ?_
        refine lv_irem S.x S.b d_Hs_reckon_166 (fun hz0 => by have hz1 := i_eq.mp hz0; omega) ?_
        refine lv_topi (fun z4 ez4 => ?_)
        have lz4 := Int32.le_toInt z4
        have uz4 := Int32.toInt_lt z4
        exact px_iret (v := z4) S hr rfl hlk hAe hw (Nat.le_of_ble_eq_true rfl) (Nat.le_of_ble_eq_true rfl) (rfl) d_Hs_reckon_167
      · have nc3 : p2.toInt = (0 : Int) := (i_eq (x := p2) (y := 0)).mp c3
        refine lv_iconst (v := 0) S.x S.b d_Hs_reckon_160 (by decide) ?_
        refine lv_goto (tgt := 167) S.x S.b d_Hs_reckon_161 (by decide) ?_
        exact px_iret (v := 0) S hr rfl hlk hAe hw (Nat.le_of_ble_eq_true rfl) (Nat.le_of_ble_eq_true rfl) (rfl) d_Hs_reckon_167
    · simp only [List.mem_cons, List.not_mem_nil, or_false] at c2
      refine lv_iload_n S.x S.b d_Hs_reckon_168 rfl (lv_at hl 1 rfl) ?_
      refine lv_iload_n S.x S.b d_Hs_reckon_169 rfl (lv_at hl 2 rfl) ?_
      refine lv_iand S.x S.b d_Hs_reckon_170 ?_
      refine lv_topi (fun z5 ez5 => ?_)
      have lz5 := Int32.le_toInt z5
      have uz5 := Int32.toInt_lt z5
      exact px_iret (v := z5) S hr rfl hlk hAe hw (Nat.le_of_ble_eq_true rfl) (Nat.le_of_ble_eq_true rfl) (rfl) d_Hs_reckon_171
    · simp only [List.mem_cons, List.not_mem_nil, or_false] at c2
      refine lv_iload_n S.x S.b d_Hs_reckon_140 rfl (lv_at hl 1 rfl) ?_
      refine lv_iload_n S.x S.b d_Hs_reckon_141 rfl (lv_at hl 2 rfl) ?_
      refine lv_imul S.x S.b d_Hs_reckon_142 ?_
      refine lv_topi (fun z6 ez6 => ?_)
      have lz6 := Int32.le_toInt z6
      have uz6 := Int32.toInt_lt z6
      exact px_iret (v := z6) S hr rfl hlk hAe hw (Nat.le_of_ble_eq_true rfl) (Nat.le_of_ble_eq_true rfl) (rfl) d_Hs_reckon_143
    · simp only [List.mem_cons, List.not_mem_nil, or_false] at c2
      refine lv_iload_n S.x S.b d_Hs_reckon_132 rfl (lv_at hl 1 rfl) ?_
      refine lv_iload_n S.x S.b d_Hs_reckon_133 rfl (lv_at hl 2 rfl) ?_
      refine lv_iadd S.x S.b d_Hs_reckon_134 ?_
      refine lv_topi (fun z7 ez7 => ?_)
      have tz7 : z7.toInt = (p1.toInt + p2.toInt + 2147483648) % 4294967296 - 2147483648 := by rw [ez7]; exact i_add p1 p2
      have lz7 := Int32.le_toInt z7
      have uz7 := Int32.toInt_lt z7
      try replace tz7 : z7.toInt = p1.toInt + p2.toInt := by omega
      exact px_iret (v := z7) S hr rfl hlk hAe hw (Nat.le_of_ble_eq_true rfl) (Nat.le_of_ble_eq_true rfl) (rfl) d_Hs_reckon_135
    · simp only [List.mem_cons, List.not_mem_nil, or_false] at c2
      refine lv_iload_n S.x S.b d_Hs_reckon_136 rfl (lv_at hl 1 rfl) ?_
      refine lv_iload_n S.x S.b d_Hs_reckon_137 rfl (lv_at hl 2 rfl) ?_
      refine lv_isub S.x S.b d_Hs_reckon_138 ?_
      refine lv_topi (fun z8 ez8 => ?_)
      have tz8 : z8.toInt = (p1.toInt - p2.toInt + 2147483648) % 4294967296 - 2147483648 := by rw [ez8]; exact i_sub p1 p2
      have lz8 := Int32.le_toInt z8
      have uz8 := Int32.toInt_lt z8
      try replace tz8 : z8.toInt = p1.toInt - p2.toInt := by omega
      exact px_iret (v := z8) S hr rfl hlk hAe hw (Nat.le_of_ble_eq_true rfl) (Nat.le_of_ble_eq_true rfl) (rfl) d_Hs_reckon_139
    · simp only [List.mem_cons, List.not_mem_nil, or_false] at c2
      refine lv_iload_n S.x S.b d_Hs_reckon_144 rfl (lv_at hl 2 rfl) ?_
      refine lv_if_ne (tgt := 152) S.x S.b d_Hs_reckon_145 (by decide) (fun c9 => ?_) (fun c9 => ?_)
      · have nc9 : ¬ p2.toInt = (0 : Int) := mt (i_eq (x := p2) (y := 0)).mpr c9
        refine lv_iload_n S.x S.b d_Hs_reckon_152 rfl (lv_at hl 1 rfl) ?_
        refine lv_iload_n S.x S.b d_Hs_reckon_153 rfl (lv_at hl 2 rfl) ?_
        refine lv_idiv S.x S.b d_Hs_reckon_154 (fun hz0 => by have hz1 := i_eq.mp hz0; omega) ?_
        refine lv_topi (fun z10 ez10 => ?_)
        have lz10 := Int32.le_toInt z10
        have uz10 := Int32.toInt_lt z10
        exact px_iret (v := z10) S hr rfl hlk hAe hw (Nat.le_of_ble_eq_true rfl) (Nat.le_of_ble_eq_true rfl) (rfl) d_Hs_reckon_155
      · have nc9 : p2.toInt = (0 : Int) := (i_eq (x := p2) (y := 0)).mp c9
        refine lv_iconst (v := 0) S.x S.b d_Hs_reckon_148 (by decide) ?_
        refine lv_goto (tgt := 155) S.x S.b d_Hs_reckon_149 (by decide) ?_
        exact px_iret (v := 0) S hr rfl hlk hAe hw (Nat.le_of_ble_eq_true rfl) (Nat.le_of_ble_eq_true rfl) (rfl) d_Hs_reckon_155
    · simp only [List.mem_cons, List.not_mem_nil, or_false] at c2
      refine lv_iload_n S.x S.b d_Hs_reckon_194 rfl (lv_at hl 1 rfl) ?_
      refine lv_iload_n S.x S.b d_Hs_reckon_195 rfl (lv_at hl 2 rfl) ?_
      refine lv_icmp_ge (tgt := 203) S.x S.b d_Hs_reckon_196 (by decide) (fun c11 => ?_) (fun c11 => ?_)
      · have nc11 : p2.toInt ≤ p1.toInt := (i_le (x := p2) (y := p1)).mp c11
        refine lv_iconst (v := 0) S.x S.b d_Hs_reckon_203 (by decide) ?_
        exact px_iret (v := 0) S hr rfl hlk hAe hw (Nat.le_of_ble_eq_true rfl) (Nat.le_of_ble_eq_true rfl) (rfl) d_Hs_reckon_204
      · have nc11 : ¬ p2.toInt ≤ p1.toInt := mt (i_le (x := p2) (y := p1)).mpr c11
        refine lv_iconst (v := 1) S.x S.b d_Hs_reckon_199 (by decide) ?_
        refine lv_goto (tgt := 204) S.x S.b d_Hs_reckon_200 (by decide) ?_
        exact px_iret (v := 1) S hr rfl hlk hAe hw (Nat.le_of_ble_eq_true rfl) (Nat.le_of_ble_eq_true rfl) (rfl) d_Hs_reckon_204
    · simp only [List.mem_cons, List.not_mem_nil, or_false] at c2
      refine lv_iload_n S.x S.b d_Hs_reckon_205 rfl (lv_at hl 1 rfl) ?_
      refine lv_iload_n S.x S.b d_Hs_reckon_206 rfl (lv_at hl 2 rfl) ?_
      refine lv_icmp_le (tgt := 214) S.x S.b d_Hs_reckon_207 (by decide) (fun c12 => ?_) (fun c12 => ?_)
      · have nc12 : p1.toInt ≤ p2.toInt := (i_le (x := p1) (y := p2)).mp c12
        refine lv_iconst (v := 0) S.x S.b d_Hs_reckon_214 (by decide) ?_
        exact px_iret (v := 0) S hr rfl hlk hAe hw (Nat.le_of_ble_eq_true rfl) (Nat.le_of_ble_eq_true rfl) (rfl) d_Hs_reckon_215
      · have nc12 : ¬ p1.toInt ≤ p2.toInt := mt (i_le (x := p1) (y := p2)).mpr c12
        refine lv_iconst (v := 1) S.x S.b d_Hs_reckon_210 (by decide) ?_
        refine lv_goto (tgt := 215) S.x S.b d_Hs_reckon_211 (by decide) ?_
        exact px_iret (v := 1) S hr rfl hlk hAe hw (Nat.le_of_ble_eq_true rfl) (Nat.le_of_ble_eq_true rfl) (rfl) d_Hs_reckon_215
    · simp only [List.mem_cons, List.not_mem_nil, or_false] at c2
      refine lv_iload_n S.x S.b d_Hs_reckon_176 rfl (lv_at hl 1 rfl) ?_
      refine lv_iload_n S.x S.b d_Hs_reckon_177 rfl (lv_at hl 2 rfl) ?_
      refine lv_ixor S.x S.b d_Hs_reckon_178 ?_
      refine lv_topi (fun z13 ez13 => ?_)
      have lz13 := Int32.le_toInt z13
      have uz13 := Int32.toInt_lt z13
      exact px_iret (v := z13) S hr rfl hlk hAe hw (Nat.le_of_ble_eq_true rfl) (Nat.le_of_ble_eq_true rfl) (rfl) d_Hs_reckon_179
    · simp only [List.mem_cons, List.not_mem_nil, or_false] at c2
      refine lv_iload_n S.x S.b d_Hs_reckon_172 rfl (lv_at hl 1 rfl) ?_
      refine lv_iload_n S.x S.b d_Hs_reckon_173 rfl (lv_at hl 2 rfl) ?_
      refine lv_ior S.x S.b d_Hs_reckon_174 ?_
      refine lv_topi (fun z14 ez14 => ?_)
      have lz14 := Int32.le_toInt z14
      have uz14 := Int32.toInt_lt z14
      exact px_iret (v := z14) S hr rfl hlk hAe hw (Nat.le_of_ble_eq_true rfl) (Nat.le_of_ble_eq_true rfl) (rfl) d_Hs_reckon_175
    · simp only [List.mem_cons, List.not_mem_nil, or_false] at c2
      refine lv_iload_n S.x S.b d_Hs_reckon_238 rfl (lv_at hl 1 rfl) ?_
      refine lv_iload_n S.x S.b d_Hs_reckon_239 rfl (lv_at hl 2 rfl) ?_
      refine lv_icmp_ne (tgt := 247) S.x S.b d_Hs_reckon_240 (by decide) (fun c15 => ?_) (fun c15 => ?_)
      · have nc15 : ¬ p1.toInt = p2.toInt := mt (i_eq (x := p1) (y := p2)).mpr c15
        refine lv_iconst (v := 0) S.x S.b d_Hs_reckon_247 (by decide) ?_
        exact px_iret (v := 0) S hr rfl hlk hAe hw (Nat.le_of_ble_eq_true rfl) (Nat.le_of_ble_eq_true rfl) (rfl) d_Hs_reckon_248
      · have nc15 : p1.toInt = p2.toInt := (i_eq (x := p1) (y := p2)).mp c15
        refine lv_iconst (v := 1) S.x S.b d_Hs_reckon_243 (by decide) ?_
        refine lv_goto (tgt := 248) S.x S.b d_Hs_reckon_244 (by decide) ?_
        exact px_iret (v := 1) S hr rfl hlk hAe hw (Nat.le_of_ble_eq_true rfl) (Nat.le_of_ble_eq_true rfl) (rfl) d_Hs_reckon_248
    · simp only [List.mem_cons, List.not_mem_nil, or_false] at c2
      refine lv_iload_n S.x S.b d_Hs_reckon_216 rfl (lv_at hl 1 rfl) ?_
      refine lv_iload_n S.x S.b d_Hs_reckon_217 rfl (lv_at hl 2 rfl) ?_
      refine lv_icmp_gt (tgt := 225) S.x S.b d_Hs_reckon_218 (by decide) (fun c16 => ?_) (fun c16 => ?_)
      · have nc16 : p2.toInt < p1.toInt := (i_lt (x := p2) (y := p1)).mp c16
        refine lv_iconst (v := 0) S.x S.b d_Hs_reckon_225 (by decide) ?_
        exact px_iret (v := 0) S hr rfl hlk hAe hw (Nat.le_of_ble_eq_true rfl) (Nat.le_of_ble_eq_true rfl) (rfl) d_Hs_reckon_226
      · have nc16 : ¬ p2.toInt < p1.toInt := mt (i_lt (x := p2) (y := p1)).mpr c16
        refine lv_iconst (v := 1) S.x S.b d_Hs_reckon_221 (by decide) ?_
        refine lv_goto (tgt := 226) S.x S.b d_Hs_reckon_222 (by decide) ?_
        exact px_iret (v := 1) S hr rfl hlk hAe hw (Nat.le_of_ble_eq_true rfl) (Nat.le_of_ble_eq_true rfl) (rfl) d_Hs_reckon_226
    · simp only [List.mem_cons, List.not_mem_nil, or_false] at c2
      refine lv_iload_n S.x S.b d_Hs_reckon_227 rfl (lv_at hl 1 rfl) ?_
      refine lv_iload_n S.x S.b d_Hs_reckon_228 rfl (lv_at hl 2 rfl) ?_
      refine lv_icmp_lt (tgt := 236) S.x S.b d_Hs_reckon_229 (by decide) (fun c17 => ?_) (fun c17 => ?_)
      · have nc17 : p1.toInt < p2.toInt := (i_lt (x := p1) (y := p2)).mp c17
        refine lv_iconst (v := 0) S.x S.b d_Hs_reckon_236 (by decide) ?_
        exact px_iret (v := 0) S hr rfl hlk hAe hw (Nat.le_of_ble_eq_true rfl) (Nat.le_of_ble_eq_true rfl) (rfl) d_Hs_reckon_237
      · have nc17 : ¬ p1.toInt < p2.toInt := mt (i_lt (x := p1) (y := p2)).mpr c17
        refine lv_iconst (v := 1) S.x S.b d_Hs_reckon_232 (by decide) ?_
        refine lv_goto (tgt := 237) S.x S.b d_Hs_reckon_233 (by decide) ?_
        exact px_iret (v := 1) S hr rfl hlk hAe hw (Nat.le_of_ble_eq_true rfl) (Nat.le_of_ble_eq_true rfl) (rfl) d_Hs_reckon_237
    · simp only [List.mem_cons, List.not_mem_nil, or_false] at c2
      refine lv_iload_n S.x S.b d_Hs_reckon_180 rfl (lv_at hl 1 rfl) ?_
      refine lv_iload_n S.x S.b d_Hs_reckon_181 rfl (lv_at hl 2 rfl) ?_
      refine lv_bipush (v := 31) S.x S.b d_Hs_reckon_182 (by decide) ?_
      refine lv_iand S.x S.b d_Hs_reckon_184 ?_
      refine lv_topi (fun z18 ez18 => ?_)
      have lz18 := Int32.le_toInt z18
      have uz18 := Int32.toInt_lt z18
      have bz18 := i_andm p2 (m := 31) 5 (by decide) (by decide)
      rw [← ez18] at bz18
      have wz18 : 0 ≤ z18.toInt ∧ z18.toInt ≤ 31 := by simp only [Nat.reducePow, Int.reducePow] at bz18; omega
      refine lv_ishl S.x S.b d_Hs_reckon_185 ?_
      refine lv_topi (fun z19 ez19 => ?_)
      have lz19 := Int32.le_toInt z19
      have uz19 := Int32.toInt_lt z19
      exact px_iret (v := z19) S hr rfl hlk hAe hw (Nat.le_of_ble_eq_true rfl) (Nat.le_of_ble_eq_true rfl) (rfl) d_Hs_reckon_186
    · simp only [List.mem_cons, List.not_mem_nil, or_false] at c2
      refine lv_iload_n S.x S.b d_Hs_reckon_187 rfl (lv_at hl 1 rfl) ?_
      refine lv_iload_n S.x S.b d_Hs_reckon_188 rfl (lv_at hl 2 rfl) ?_
      refine lv_bipush (v := 31) S.x S.b d_Hs_reckon_189 (by decide) ?_
      refine lv_iand S.x S.b d_Hs_reckon_191 ?_
      refine lv_topi (fun z20 ez20 => ?_)
      have lz20 := Int32.le_toInt z20
      have uz20 := Int32.toInt_lt z20
      have bz20 := i_andm p2 (m := 31) 5 (by decide) (by decide)
      rw [← ez20] at bz20
      have wz20 : 0 ≤ z20.toInt ∧ z20.toInt ≤ 31 := by simp only [Nat.reducePow, Int.reducePow] at bz20; omega
      refine lv_ishr S.x S.b d_Hs_reckon_192 ?_
      refine lv_topi (fun z21 ez21 => ?_)
      have lz21 := Int32.le_toInt z21
      have uz21 := Int32.toInt_lt z21
      exact px_iret (v := z21) S hr rfl hlk hAe hw (Nat.le_of_ble_eq_true rfl) (Nat.le_of_ble_eq_true rfl) (rfl) d_Hs_reckon_193
abbrev b_Hs_reckonUnary : ByteArray := prog_1_method_21_code
def y_Hs_reckonUnary : MethodName := ⟨"HomeSystem", "reckonUnary", "(II)I"⟩
theorem d_Hs_reckonUnary_0 : decode b_Hs_reckonUnary 0 = .ok (.iload_n 0, 1) := by decide +kernel
theorem d_Hs_reckonUnary_1 : decode b_Hs_reckonUnary 1 = .ok (.lookupswitch 40 #[(33, 30), (45, 27)], 27) := by decide +kernel
theorem d_Hs_reckonUnary_28 : decode b_Hs_reckonUnary 28 = .ok (.iload_n 1, 1) := by decide +kernel
theorem d_Hs_reckonUnary_29 : decode b_Hs_reckonUnary 29 = .ok (.ineg, 1) := by decide +kernel
theorem d_Hs_reckonUnary_30 : decode b_Hs_reckonUnary 30 = .ok (.ireturn, 1) := by decide +kernel
theorem d_Hs_reckonUnary_31 : decode b_Hs_reckonUnary 31 = .ok (.iload_n 1, 1) := by decide +kernel
theorem d_Hs_reckonUnary_32 : decode b_Hs_reckonUnary 32 = .ok (.ifCond .ne 7, 3) := by decide +kernel
theorem d_Hs_reckonUnary_35 : decode b_Hs_reckonUnary 35 = .ok (.iconst 1, 1) := by decide +kernel
theorem d_Hs_reckonUnary_36 : decode b_Hs_reckonUnary 36 = .ok (.goto 4, 3) := by decide +kernel
theorem d_Hs_reckonUnary_39 : decode b_Hs_reckonUnary 39 = .ok (.iconst 0, 1) := by decide +kernel
theorem d_Hs_reckonUnary_40 : decode b_Hs_reckonUnary 40 = .ok (.ireturn, 1) := by decide +kernel
theorem d_Hs_reckonUnary_41 : decode b_Hs_reckonUnary 41 = .ok (.iload_n 1, 1) := by decide +kernel
theorem d_Hs_reckonUnary_42 : decode b_Hs_reckonUnary 42 = .ok (.iconst (-1), 1) := by decide +kernel
theorem d_Hs_reckonUnary_43 : decode b_Hs_reckonUnary 43 = .ok (.ixor, 1) := by decide +kernel
theorem d_Hs_reckonUnary_44 : decode b_Hs_reckonUnary 44 = .ok (.ireturn, 1) := by decide +kernel
theorem q_Hs_reckonUnary : px_y y_Hs_reckonUnary 2 := by unfold px_y; decide +kernel
set_option maxHeartbeats 4000000 in
set_option maxRecDepth 100000 in
theorem c_Hs_reckonUnary (l : Launch) (D : va_G) (cs : Nat → ClassId)  (p0 p1 : Int32)   : MetI l y_Hs_reckonUnary b_Hs_reckonUnary 2 (.int) D cs 0 0 (0) (0) [.int p0, .int p1] [] (fun _ => True) (fun v ps => (ps = [])) := by
  refine px_enter (by decide) (Nat.le_of_ble_eq_true rfl) ?_
  intro p e s m below meth c A ls hAe S hr hlk hnm hA hT hX hw hl
  have hl : lv_has ls 2 [(0, .int p0), (1, .int p1)] := hl
  have lp0 := Int32.le_toInt p0
  have up0 := Int32.toInt_lt p0
  have lp1 := Int32.le_toInt p1
  have up1 := Int32.toInt_lt p1
  have cstm1 : ((-1) : Int32).toInt = (-1) := rfl
  have cst0 : (0 : Int32).toInt = 0 := rfl
  have cst1 : (1 : Int32).toInt = 1 := rfl
  refine lv_iload_n S.x S.b d_Hs_reckonUnary_0 rfl (lv_at hl 0 rfl) ?_
  refine px_lookupK S (dt := 41) [(31, [33]), (28, [45])] d_Hs_reckonUnary_1 (by decide +kernel) (by decide) (by decide +kernel) ?_ ?_
  ·
    refine lv_iload_n S.x S.b d_Hs_reckonUnary_41 rfl (lv_at hl 1 rfl) ?_
    refine lv_iconst (v := (-1)) S.x S.b d_Hs_reckonUnary_42 (by decide) ?_
    refine lv_ixor S.x S.b d_Hs_reckonUnary_43 ?_
    refine lv_topi (fun z1 ez1 => ?_)
    have lz1 := Int32.le_toInt z1
    have uz1 := Int32.toInt_lt z1
    exact px_iret (v := z1) S hr rfl hlk hAe hw (Nat.le_of_ble_eq_true rfl) (Nat.le_of_ble_eq_true rfl) (rfl) d_Hs_reckonUnary_44
  · refine List.forall_mem_cons.mpr ⟨fun c2 => ?_, List.forall_mem_cons.mpr ⟨fun c2 => ?_, fun _ h => absurd h List.not_mem_nil⟩⟩
    · simp only [List.mem_cons, List.not_mem_nil, or_false] at c2
      refine lv_iload_n S.x S.b d_Hs_reckonUnary_31 rfl (lv_at hl 1 rfl) ?_
      refine lv_if_ne (tgt := 39) S.x S.b d_Hs_reckonUnary_32 (by decide) (fun c3 => ?_) (fun c3 => ?_)
      · have nc3 : ¬ p1.toInt = (0 : Int) := mt (i_eq (x := p1) (y := 0)).mpr c3
        refine lv_iconst (v := 0) S.x S.b d_Hs_reckonUnary_39 (by decide) ?_
        exact px_iret (v := 0) S hr rfl hlk hAe hw (Nat.le_of_ble_eq_true rfl) (Nat.le_of_ble_eq_true rfl) (rfl) d_Hs_reckonUnary_40
      · have nc3 : p1.toInt = (0 : Int) := (i_eq (x := p1) (y := 0)).mp c3
        refine lv_iconst (v := 1) S.x S.b d_Hs_reckonUnary_35 (by decide) ?_
        refine lv_goto (tgt := 40) S.x S.b d_Hs_reckonUnary_36 (by decide) ?_
        exact px_iret (v := 1) S hr rfl hlk hAe hw (Nat.le_of_ble_eq_true rfl) (Nat.le_of_ble_eq_true rfl) (rfl) d_Hs_reckonUnary_40
    · simp only [List.mem_cons, List.not_mem_nil, or_false] at c2
      refine lv_iload_n S.x S.b d_Hs_reckonUnary_28 rfl (lv_at hl 1 rfl) ?_
      refine lv_ineg S.x S.b d_Hs_reckonUnary_29 ?_
      refine lv_topi (fun z4 ez4 => ?_)
      have lz4 := Int32.le_toInt z4
      have uz4 := Int32.toInt_lt z4
      exact px_iret (v := z4) S hr rfl hlk hAe hw (Nat.le_of_ble_eq_true rfl) (Nat.le_of_ble_eq_true rfl) (rfl) d_Hs_reckonUnary_30
abbrev b_Hs_byZero : ByteArray := prog_1_method_22_code
def y_Hs_byZero : MethodName := ⟨"HomeSystem", "byZero", "(II)Z"⟩
theorem d_Hs_byZero_0 : decode b_Hs_byZero 0 = .ok (.iload_n 0, 1) := by decide +kernel
theorem d_Hs_byZero_1 : decode b_Hs_byZero 1 = .ok (.bipush 47, 2) := by decide +kernel
theorem d_Hs_byZero_3 : decode b_Hs_byZero 3 = .ok (.if_icmp .eq 9, 3) := by decide +kernel
theorem d_Hs_byZero_6 : decode b_Hs_byZero 6 = .ok (.iload_n 0, 1) := by decide +kernel
theorem d_Hs_byZero_7 : decode b_Hs_byZero 7 = .ok (.bipush 37, 2) := by decide +kernel
theorem d_Hs_byZero_9 : decode b_Hs_byZero 9 = .ok (.if_icmp .ne 11, 3) := by decide +kernel
theorem d_Hs_byZero_12 : decode b_Hs_byZero 12 = .ok (.iload_n 1, 1) := by decide +kernel
theorem d_Hs_byZero_13 : decode b_Hs_byZero 13 = .ok (.ifCond .ne 7, 3) := by decide +kernel
theorem d_Hs_byZero_16 : decode b_Hs_byZero 16 = .ok (.iconst 1, 1) := by decide +kernel
theorem d_Hs_byZero_17 : decode b_Hs_byZero 17 = .ok (.goto 4, 3) := by decide +kernel
theorem d_Hs_byZero_20 : decode b_Hs_byZero 20 = .ok (.iconst 0, 1) := by decide +kernel
theorem d_Hs_byZero_21 : decode b_Hs_byZero 21 = .ok (.ireturn, 1) := by decide +kernel
theorem q_Hs_byZero : px_y y_Hs_byZero 2 := by unfold px_y; decide +kernel
set_option maxHeartbeats 4000000 in
set_option maxRecDepth 100000 in
theorem c_Hs_byZero (l : Launch) (D : va_G) (cs : Nat → ClassId)  (p0 p1 : Int32)   : MetI l y_Hs_byZero b_Hs_byZero 2 (.boolean) D cs 0 0 (0) (0) [.int p0, .int p1] [] (fun _ => True) (fun v ps => (ps = []) ∧ (v = 0 ∨ v = 1)) := by
  refine px_enter (by decide) (Nat.le_of_ble_eq_true rfl) ?_
  intro p e s m below meth c A ls hAe S hr hlk hnm hA hT hX hw hl
  have hl : lv_has ls 2 [(0, .int p0), (1, .int p1)] := hl
  have lp0 := Int32.le_toInt p0
  have up0 := Int32.toInt_lt p0
  have lp1 := Int32.le_toInt p1
  have up1 := Int32.toInt_lt p1
  have cst0 : (0 : Int32).toInt = 0 := rfl
  have cst1 : (1 : Int32).toInt = 1 := rfl
  have cst37 : (37 : Int32).toInt = 37 := rfl
  have cst47 : (47 : Int32).toInt = 47 := rfl
  refine lv_iload_n S.x S.b d_Hs_byZero_0 rfl (lv_at hl 0 rfl) ?_
  refine lv_bipush (v := 47) S.x S.b d_Hs_byZero_1 (by decide) ?_
  refine lv_icmp_eq (tgt := 12) S.x S.b d_Hs_byZero_3 (by decide) (fun c1 => ?_) (fun c1 => ?_)
  · have nc1 : p0.toInt = (47 : Int) := (i_eq (x := p0) (y := 47)).mp c1
    refine lv_iload_n S.x S.b d_Hs_byZero_12 rfl (lv_at hl 1 rfl) ?_
    refine lv_if_ne (tgt := 20) S.x S.b d_Hs_byZero_13 (by decide) (fun c2 => ?_) (fun c2 => ?_)
    · have nc2 : ¬ p1.toInt = (0 : Int) := mt (i_eq (x := p1) (y := 0)).mpr c2
      refine lv_iconst (v := 0) S.x S.b d_Hs_byZero_20 (by decide) ?_
      exact px_iret (v := 0) S hr rfl hlk hAe hw (Nat.le_of_ble_eq_true rfl) (Nat.le_of_ble_eq_true rfl) (⟨rfl, (show (0 : Int32) = 0 ∨ (0 : Int32) = 1 from by first | exact Or.inl rfl | exact Or.inr rfl | exact z_or (by omega))⟩) d_Hs_byZero_21
    · have nc2 : p1.toInt = (0 : Int) := (i_eq (x := p1) (y := 0)).mp c2
      refine lv_iconst (v := 1) S.x S.b d_Hs_byZero_16 (by decide) ?_
      refine lv_goto (tgt := 21) S.x S.b d_Hs_byZero_17 (by decide) ?_
      exact px_iret (v := 1) S hr rfl hlk hAe hw (Nat.le_of_ble_eq_true rfl) (Nat.le_of_ble_eq_true rfl) (⟨rfl, (show (1 : Int32) = 0 ∨ (1 : Int32) = 1 from by first | exact Or.inl rfl | exact Or.inr rfl | exact z_or (by omega))⟩) d_Hs_byZero_21
  · have nc1 : ¬ p0.toInt = (47 : Int) := mt (i_eq (x := p0) (y := 47)).mpr c1
    refine lv_iload_n S.x S.b d_Hs_byZero_6 rfl (lv_at hl 0 rfl) ?_
    refine lv_bipush (v := 37) S.x S.b d_Hs_byZero_7 (by decide) ?_
    refine lv_icmp_ne (tgt := 20) S.x S.b d_Hs_byZero_9 (by decide) (fun c3 => ?_) (fun c3 => ?_)
    · have nc3 : ¬ p0.toInt = (37 : Int) := mt (i_eq (x := p0) (y := 37)).mpr c3
      refine lv_iconst (v := 0) S.x S.b d_Hs_byZero_20 (by decide) ?_
      exact px_iret (v := 0) S hr rfl hlk hAe hw (Nat.le_of_ble_eq_true rfl) (Nat.le_of_ble_eq_true rfl) (⟨rfl, (show (0 : Int32) = 0 ∨ (0 : Int32) = 1 from by first | exact Or.inl rfl | exact Or.inr rfl | exact z_or (by omega))⟩) d_Hs_byZero_21
    · have nc3 : p0.toInt = (37 : Int) := (i_eq (x := p0) (y := 37)).mp c3
      refine lv_iload_n S.x S.b d_Hs_byZero_12 rfl (lv_at hl 1 rfl) ?_
      refine lv_if_ne (tgt := 20) S.x S.b d_Hs_byZero_13 (by decide) (fun c4 => ?_) (fun c4 => ?_)
      · have nc4 : ¬ p1.toInt = (0 : Int) := mt (i_eq (x := p1) (y := 0)).mpr c4
        refine lv_iconst (v := 0) S.x S.b d_Hs_byZero_20 (by decide) ?_
        exact px_iret (v := 0) S hr rfl hlk hAe hw (Nat.le_of_ble_eq_true rfl) (Nat.le_of_ble_eq_true rfl) (⟨rfl, (show (0 : Int32) = 0 ∨ (0 : Int32) = 1 from by first | exact Or.inl rfl | exact Or.inr rfl | exact z_or (by omega))⟩) d_Hs_byZero_21
      · have nc4 : p1.toInt = (0 : Int) := (i_eq (x := p1) (y := 0)).mp c4
        refine lv_iconst (v := 1) S.x S.b d_Hs_byZero_16 (by decide) ?_
        refine lv_goto (tgt := 21) S.x S.b d_Hs_byZero_17 (by decide) ?_
        exact px_iret (v := 1) S hr rfl hlk hAe hw (Nat.le_of_ble_eq_true rfl) (Nat.le_of_ble_eq_true rfl) (⟨rfl, (show (1 : Int32) = 0 ∨ (1 : Int32) = 1 from by first | exact Or.inl rfl | exact Or.inr rfl | exact z_or (by omega))⟩) d_Hs_byZero_21
set_option maxHeartbeats 4000000 in
set_option maxRecDepth 100000 in
theorem c_finish_Txp (l : Launch) (D : va_G) (cs : Nat → ClassId) (h : Nat) (r : Nat → Nat) (g : Nat → Nat → Option Nat) (hp : Nat) (f : Nat → Int32) (a : Nat → Nat → Int32) (p0 p1 : Int32)  (hinv0 : TxOk (f 4) (f 5) (f 8) (f 9) (f 17) (f 21) (a 2)) : MetV l y_HomeSystem_AnyProcess_finish b_HomeSystem_AnyProcess_finish 3 D cs 0 0 (0) (0) [.ref h, .int p0, .int p1] [wd_Txp cs h r (fun k => if k = 3 then (some hp) else none) f a g] (fun _ => True) (fun ps => ∃ (f' : Nat → Int32) (a' : Nat → Nat → Int32), (ps = [wd_Txp cs h r (fun k => if k = 3 then (some hp) else none) f' a' g]) ∧ (TxOk (f' 4) (f' 5) (f' 8) (f' 9) (f' 17) (f' 21) (a' 2)) ∧ ((f' 9).toInt = (f 9).toInt) ∧ ((f' 17).toInt = (f 17).toInt) ∧ ((f' 21).toInt = 0) ∧ ((f' 15).toInt = (f 15).toInt) ∧ ((f' 20).toInt = (f 20).toInt)) := by
  refine px_enter (by decide) (Nat.le_of_ble_eq_true rfl) ?_
  intro p e s m below meth c A ls hAe S hr hlk hnm hA hT hX hw hl
  have hl : lv_has ls 3 [(0, .ref h), (1, .int p0), (2, .int p1)] := hl
  have lp0 := Int32.le_toInt p0
  have up0 := Int32.toInt_lt p0
  have lp1 := Int32.le_toInt p1
  have up1 := Int32.toInt_lt p1
  have cst0 : (0 : Int32).toInt = 0 := rfl
  obtain ⟨lk, ⟨i2, i3⟩, ⟨i4, i5⟩, ⟨i6, i7⟩, i8, ⟨i9, i11⟩, i10, hrt⟩ := hinv0
  refine lv_aload_n S.x S.b d_HomeSystem_AnyProcess_finish_0 rfl (lv_at hl 0 rfl) ?_
  refine lv_iload_n S.x S.b d_HomeSystem_AnyProcess_finish_1 rfl (lv_at hl 1 rfl) ?_
  refine px_put S k_Txp hT hw 0 0 18 rfl rfl (by decide) m6_138 rfl rfl rfl (Nat.le_of_ble_eq_true rfl) d_HomeSystem_AnyProcess_finish_2 (w' := wd_Txp cs h r (fun k => if k = 3 then (some hp) else none) (upd f 18 p0) a g) (ps' := [wd_Txp cs h r (fun k => if k = 3 then (some hp) else none) (upd f 18 p0) a g]) rfl rfl (fun H locs hw => ?_)
  refine lv_aload_n S.x S.b d_HomeSystem_AnyProcess_finish_5 rfl (lv_at hl 0 rfl) ?_
  refine lv_iload_n S.x S.b d_HomeSystem_AnyProcess_finish_6 rfl (lv_at hl 2 rfl) ?_
  refine px_put S k_Txp hT hw 0 0 19 rfl rfl (by decide) m6_145 rfl rfl rfl (Nat.le_of_ble_eq_true rfl) d_HomeSystem_AnyProcess_finish_7 (w' := wd_Txp cs h r (fun k => if k = 3 then (some hp) else none) (upd (upd f 18 p0) 19 p1) a g) (ps' := [wd_Txp cs h r (fun k => if k = 3 then (some hp) else none) (upd (upd f 18 p0) 19 p1) a g]) rfl rfl (fun H locs hw => ?_)
  refine lv_aload_n S.x S.b d_HomeSystem_AnyProcess_finish_10 rfl (lv_at hl 0 rfl) ?_
  refine lv_iconst (v := 0) S.x S.b d_HomeSystem_AnyProcess_finish_11 (by decide) ?_
  refine px_put S k_Txp hT hw 0 0 21 rfl rfl (by decide) m6_150 rfl rfl rfl (Nat.le_of_ble_eq_true rfl) d_HomeSystem_AnyProcess_finish_12 (w' := wd_Txp cs h r (fun k => if k = 3 then (some hp) else none) (upd (upd (upd f 18 p0) 19 p1) 21 0) a g) (ps' := [wd_Txp cs h r (fun k => if k = 3 then (some hp) else none) (upd (upd (upd f 18 p0) 19 p1) 21 0) a g]) rfl rfl (fun H locs hw => ?_)
  first | exact px_vret S hr hlk hAe hw (Nat.le_of_ble_eq_true rfl) (Nat.le_of_ble_eq_true rfl) (⟨(upd (upd (upd f 18 p0) 19 p1) 21 0), a, rfl, (show TxOk (f 4) (f 5) (f 8) (f 9) (f 17) 0 (a 2) from ⟨lk, ⟨i2, i3⟩, ⟨i4, i5⟩, ⟨i6, i7⟩, i8, ⟨by omega, by omega⟩, by omega, hrt⟩), (show (f 9).toInt = (f 9).toInt from rfl), (show (f 17).toInt = (f 17).toInt from rfl), (show (0 : Int) = 0 from by first | decide | omega), (show (f 15).toInt = (f 15).toInt from rfl), (show (f 20).toInt = (f 20).toInt from rfl)⟩) d_HomeSystem_AnyProcess_finish_15 | exact px_vret S hr hlk hAe hw (Nat.le_of_ble_eq_true rfl) (Nat.le_of_ble_eq_true rfl) (⟨(upd (upd (upd f 18 p0) 19 p1) 21 0), a, rfl, (show TxOk (f 4) (f 5) (f 8) (f 9) (f 17) 0 (a 2) from ⟨lk, ⟨by first | exact i2 | omega, by first | exact i3 | omega⟩, ⟨by first | exact i4 | omega, by first | exact i5 | omega⟩, ⟨by first | exact i6 | omega, by first | exact i7 | omega⟩, by first | exact i8 | omega, ⟨by omega, by omega⟩, by omega, hrt⟩), (show (f 9).toInt = (f 9).toInt from rfl), (show (f 17).toInt = (f 17).toInt from rfl), (show (0 : Int) = 0 from by first | decide | omega), (show (f 15).toInt = (f 15).toInt from rfl), (show (f 20).toInt = (f 20).toInt from rfl)⟩) d_HomeSystem_AnyProcess_finish_15
abbrev b_Prg_aboutFunction : ByteArray := prog_7_method_5_code
def y_Prg_aboutFunction : MethodName := ⟨"HomeSystem$Program", "aboutFunction", "(II)I"⟩
theorem d_Prg_aboutFunction_0 : decode b_Prg_aboutFunction 0 = .ok (.iconst 3, 1) := by decide +kernel
theorem d_Prg_aboutFunction_1 : decode b_Prg_aboutFunction 1 = .ok (.iload_n 1, 1) := by decide +kernel
theorem d_Prg_aboutFunction_2 : decode b_Prg_aboutFunction 2 = .ok (.imul, 1) := by decide +kernel
theorem d_Prg_aboutFunction_3 : decode b_Prg_aboutFunction 3 = .ok (.iload_n 2, 1) := by decide +kernel
theorem d_Prg_aboutFunction_4 : decode b_Prg_aboutFunction 4 = .ok (.iadd, 1) := by decide +kernel
theorem d_Prg_aboutFunction_5 : decode b_Prg_aboutFunction 5 = .ok (.istore_n 3, 1) := by decide +kernel
theorem d_Prg_aboutFunction_6 : decode b_Prg_aboutFunction 6 = .ok (.aload_n 0, 1) := by decide +kernel
theorem d_Prg_aboutFunction_7 : decode b_Prg_aboutFunction 7 = .ok (.getfield 15, 3) := by decide +kernel
theorem d_Prg_aboutFunction_10 : decode b_Prg_aboutFunction 10 = .ok (.ifnull 25, 3) := by decide +kernel
theorem d_Prg_aboutFunction_13 : decode b_Prg_aboutFunction 13 = .ok (.iload_n 3, 1) := by decide +kernel
theorem d_Prg_aboutFunction_14 : decode b_Prg_aboutFunction 14 = .ok (.ifCond .lt 21, 3) := by decide +kernel
theorem d_Prg_aboutFunction_17 : decode b_Prg_aboutFunction 17 = .ok (.iload_n 3, 1) := by decide +kernel
theorem d_Prg_aboutFunction_18 : decode b_Prg_aboutFunction 18 = .ok (.aload_n 0, 1) := by decide +kernel
theorem d_Prg_aboutFunction_19 : decode b_Prg_aboutFunction 19 = .ok (.getfield 15, 3) := by decide +kernel
theorem d_Prg_aboutFunction_22 : decode b_Prg_aboutFunction 22 = .ok (.arraylength, 1) := by decide +kernel
theorem d_Prg_aboutFunction_23 : decode b_Prg_aboutFunction 23 = .ok (.if_icmp .ge 12, 3) := by decide +kernel
theorem d_Prg_aboutFunction_26 : decode b_Prg_aboutFunction 26 = .ok (.aload_n 0, 1) := by decide +kernel
theorem d_Prg_aboutFunction_27 : decode b_Prg_aboutFunction 27 = .ok (.getfield 15, 3) := by decide +kernel
theorem d_Prg_aboutFunction_30 : decode b_Prg_aboutFunction 30 = .ok (.iload_n 3, 1) := by decide +kernel
theorem d_Prg_aboutFunction_31 : decode b_Prg_aboutFunction 31 = .ok (.iaload, 1) := by decide +kernel
theorem d_Prg_aboutFunction_32 : decode b_Prg_aboutFunction 32 = .ok (.goto 4, 3) := by decide +kernel
theorem d_Prg_aboutFunction_35 : decode b_Prg_aboutFunction 35 = .ok (.iconst 0, 1) := by decide +kernel
theorem d_Prg_aboutFunction_36 : decode b_Prg_aboutFunction 36 = .ok (.ireturn, 1) := by decide +kernel
theorem q_Prg_aboutFunction : px_y y_Prg_aboutFunction 2 := by unfold px_y; decide +kernel
set_option maxHeartbeats 4000000 in
set_option maxRecDepth 100000 in
theorem c_Prg_aboutFunction (l : Launch) (D : va_G) (cs : Nat → ClassId) (hp : Nat) (rp : Nat → Nat) (of : Option Nat) (fp : Nat → Int32) (fn : Nat) (fd : Nat → Int32) (p0 p1 : Int32)  (g0 : fn ≤ 1000000) (g1 : 0 ≤ p0.toInt) (g2 : p0.toInt ≤ 1000000) (g3 : 0 ≤ p1.toInt) (g4 : p1.toInt ≤ 2) (hfd : RtOk fd) : MetI l y_Prg_aboutFunction b_Prg_aboutFunction 4 (.int) D cs 0 0 (0) (0) [.ref hp, .int p0, .int p1] [wd_Prg cs hp rp (fun k => if k = 2 then of else none) fp (fun _ _ => 0) (fun _ _ => none), nA cs of fn fd] (fun _ => True) (fun v ps => (ps = [wd_Prg cs hp rp (fun k => if k = 2 then of else none) fp (fun _ _ => 0) (fun _ _ => none), nA cs of fn fd]) ∧ (p1.toInt = 0 → Lk v)) := by
  refine px_enter (by decide) (Nat.le_of_ble_eq_true rfl) ?_
  intro p e s m below meth c A ls hAe S hr hlk hnm hA hT hX hw hl
  have hl : lv_has ls 4 [(0, .ref hp), (1, .int p0), (2, .int p1)] := hl
  have lp0 := Int32.le_toInt p0
  have up0 := Int32.toInt_lt p0
  have lp1 := Int32.le_toInt p1
  have up1 := Int32.toInt_lt p1
  have cst0 : (0 : Int32).toInt = 0 := rfl
  have cst3 : (3 : Int32).toInt = 3 := rfl
  have hfn : (nI fn).toInt = (fn : Int) := nI_toInt (by omega)
  refine lv_iconst (v := 3) S.x S.b d_Prg_aboutFunction_0 (by decide) ?_
  refine lv_iload_n S.x S.b d_Prg_aboutFunction_1 rfl (lv_at hl 1 rfl) ?_
  refine lv_imul S.x S.b d_Prg_aboutFunction_2 ?_
  refine lv_topi (fun z1 ez1 => ?_)
  have lz1 := Int32.le_toInt z1
  have uz1 := Int32.toInt_lt z1
  have tz1 : -2147483648 ≤ 3 * p0.toInt → 3 * p0.toInt < 2147483648 → z1.toInt = 3 * p0.toInt := by rw [ez1]; exact i_mulc 3 p0 (by decide)
  try replace tz1 : z1.toInt = 3 * p0.toInt := by omega
  refine lv_iload_n S.x S.b d_Prg_aboutFunction_3 rfl (lv_at hl 2 rfl) ?_
  refine lv_iadd S.x S.b d_Prg_aboutFunction_4 ?_
  refine lv_topi (fun z2 ez2 => ?_)
  have tz2 : z2.toInt = (z1.toInt + p1.toInt + 2147483648) % 4294967296 - 2147483648 := by rw [ez2]; exact i_add z1 p1
  have lz2 := Int32.le_toInt z2
  have uz2 := Int32.toInt_lt z2
  try replace tz2 : z2.toInt = z1.toInt + p1.toInt := by omega
  refine lv_istore_n (lv' := [(3, .int z2), (0, .ref hp), (1, .int p0), (2, .int p1)]) S.x S.b d_Prg_aboutFunction_5 rfl hl (by decide) rfl (fun ls hl => ?_)
  refine lv_aload_n S.x S.b d_Prg_aboutFunction_6 rfl (lv_at hl 1 rfl) ?_
  refine px_get S k_Prg hT hw 0 0 2 (v := va_rf of) rfl rfl rfl (by decide) m2_103 d_Prg_aboutFunction_7 ?_
  refine lq_ifnull (x := of) (tgt := 35) S.x S.b d_Prg_aboutFunction_10 (by decide) (fun c3 => ?_) (fun q4 c3 => ?_)
  ·
    subst c3
    refine lv_iconst (v := 0) S.x S.b d_Prg_aboutFunction_35 (by decide) ?_
    exact px_iret (v := 0) S hr rfl hlk hAe hw (Nat.le_of_ble_eq_true rfl) (Nat.le_of_ble_eq_true rfl) (⟨rfl, (show p1.toInt = 0 → Lk (0 : Int32) from by first | assumption | exact fun _ => lk_mk (by omega))⟩) d_Prg_aboutFunction_36
  ·
    subst c3
    refine lv_iload_n S.x S.b d_Prg_aboutFunction_13 rfl (lv_at hl 0 rfl) ?_
    refine lv_if_lt (tgt := 35) S.x S.b d_Prg_aboutFunction_14 (by decide) (fun c5 => ?_) (fun c5 => ?_)
    · have nc5 : z2.toInt < (0 : Int) := (i_lt (x := z2) (y := 0)).mp c5
      refine lv_iconst (v := 0) S.x S.b d_Prg_aboutFunction_35 (by decide) ?_
      exact px_iret (v := 0) S hr rfl hlk hAe hw (Nat.le_of_ble_eq_true rfl) (Nat.le_of_ble_eq_true rfl) (⟨rfl, (show p1.toInt = 0 → Lk (0 : Int32) from by first | assumption | exact fun _ => lk_mk (by omega))⟩) d_Prg_aboutFunction_36
    · have nc5 : ¬ z2.toInt < (0 : Int) := mt (i_lt (x := z2) (y := 0)).mpr c5
      refine lv_iload_n S.x S.b d_Prg_aboutFunction_17 rfl (lv_at hl 0 rfl) ?_
      refine lv_aload_n S.x S.b d_Prg_aboutFunction_18 rfl (lv_at hl 1 rfl) ?_
      refine px_get S k_Prg hT hw 0 0 2 (v := .ref q4) rfl rfl rfl (by decide) m2_103 d_Prg_aboutFunction_19 ?_
      refine px_len S hT hw 1 0 0 rfl rfl rfl (v := (nI fn)) rfl d_Prg_aboutFunction_22 ?_
      refine lv_icmp_ge (tgt := 35) S.x S.b d_Prg_aboutFunction_23 (by decide) (fun c6 => ?_) (fun c6 => ?_)
      · have nc6 : (nI fn).toInt ≤ z2.toInt := (i_le (x := (nI fn)) (y := z2)).mp c6
        refine lv_iconst (v := 0) S.x S.b d_Prg_aboutFunction_35 (by decide) ?_
        exact px_iret (v := 0) S hr rfl hlk hAe hw (Nat.le_of_ble_eq_true rfl) (Nat.le_of_ble_eq_true rfl) (⟨rfl, (show p1.toInt = 0 → Lk (0 : Int32) from by first | assumption | exact fun _ => lk_mk (by omega))⟩) d_Prg_aboutFunction_36
      · have nc6 : ¬ (nI fn).toInt ≤ z2.toInt := mt (i_le (x := (nI fn)) (y := z2)).mpr c6
        refine lv_aload_n S.x S.b d_Prg_aboutFunction_26 rfl (lv_at hl 1 rfl) ?_
        refine px_get S k_Prg hT hw 0 0 2 (v := .ref q4) rfl rfl rfl (by decide) m2_103 d_Prg_aboutFunction_27 ?_
        refine lv_iload_n S.x S.b d_Prg_aboutFunction_30 rfl (lv_at hl 0 rfl) ?_
        refine px_iald S hT hw 1 0 (n := fn) (f := fd) rfl rfl (x := z2) (vp_in_iff.mpr (by constructor <;> omega)) d_Prg_aboutFunction_31 ?_
        refine lv_topi (fun z7 ez7 => ?_)
        have lz7 := Int32.le_toInt z7
        have uz7 := Int32.toInt_lt z7
        have hfe : p1.toInt = 0 → Lk z7 := fun h0 => fun_at hfd (x := z2) (by omega) (by omega) ez7
        refine lv_goto (tgt := 36) S.x S.b d_Prg_aboutFunction_32 (by decide) ?_
        exact px_iret (v := z7) S hr rfl hlk hAe hw (Nat.le_of_ble_eq_true rfl) (Nat.le_of_ble_eq_true rfl) (⟨rfl, (show p1.toInt = 0 → Lk z7 from by first | assumption | exact fun _ => lk_mk (by omega))⟩) d_Prg_aboutFunction_36
abbrev b_Txp_peek : ByteArray := prog_11_method_8_code
def y_Txp_peek : MethodName := ⟨"HomeSystem$TextProcess", "peek", "(I)I"⟩
theorem d_Txp_peek_0 : decode b_Txp_peek 0 = .ok (.iload_n 1, 1) := by decide +kernel
theorem d_Txp_peek_1 : decode b_Txp_peek 1 = .ok (.ifCond .lt 21, 3) := by decide +kernel
theorem d_Txp_peek_4 : decode b_Txp_peek 4 = .ok (.iload_n 1, 1) := by decide +kernel
theorem d_Txp_peek_5 : decode b_Txp_peek 5 = .ok (.aload_n 0, 1) := by decide +kernel
theorem d_Txp_peek_6 : decode b_Txp_peek 6 = .ok (.getfield 9, 3) := by decide +kernel
theorem d_Txp_peek_9 : decode b_Txp_peek 9 = .ok (.arraylength, 1) := by decide +kernel
theorem d_Txp_peek_10 : decode b_Txp_peek 10 = .ok (.if_icmp .ge 12, 3) := by decide +kernel
theorem d_Txp_peek_13 : decode b_Txp_peek 13 = .ok (.aload_n 0, 1) := by decide +kernel
theorem d_Txp_peek_14 : decode b_Txp_peek 14 = .ok (.getfield 9, 3) := by decide +kernel
theorem d_Txp_peek_17 : decode b_Txp_peek 17 = .ok (.iload_n 1, 1) := by decide +kernel
theorem d_Txp_peek_18 : decode b_Txp_peek 18 = .ok (.iaload, 1) := by decide +kernel
theorem d_Txp_peek_19 : decode b_Txp_peek 19 = .ok (.goto 4, 3) := by decide +kernel
theorem d_Txp_peek_22 : decode b_Txp_peek 22 = .ok (.iconst 0, 1) := by decide +kernel
theorem d_Txp_peek_23 : decode b_Txp_peek 23 = .ok (.ireturn, 1) := by decide +kernel
theorem q_Txp_peek : px_y y_Txp_peek 1 := by unfold px_y; decide +kernel
set_option maxHeartbeats 4000000 in
set_option maxRecDepth 100000 in
theorem c_Txp_peek (l : Launch) (D : va_G) (cs : Nat → ClassId) (h : Nat) (r : Nat → Nat) (g : Nat → Nat → Option Nat) (hp : Nat) (f : Nat → Int32) (a : Nat → Nat → Int32) (p0 : Int32)  (hinv0 : TxOk (f 4) (f 5) (f 8) (f 9) (f 17) (f 21) (a 2)) : MetI l y_Txp_peek b_Txp_peek 2 (.int) D cs 0 0 (0) (0) [.ref h, .int p0] [wd_Txp cs h r (fun k => if k = 3 then (some hp) else none) f a g] (fun _ => True) (fun v ps => (ps = [wd_Txp cs h r (fun k => if k = 3 then (some hp) else none) f a g])) := by
  refine px_enter (by decide) (Nat.le_of_ble_eq_true rfl) ?_
  intro p e s m below meth c A ls hAe S hr hlk hnm hA hT hX hw hl
  have hl : lv_has ls 2 [(0, .ref h), (1, .int p0)] := hl
  have lp0 := Int32.le_toInt p0
  have up0 := Int32.toInt_lt p0
  have cst0 : (0 : Int32).toInt = 0 := rfl
  obtain ⟨lk, ⟨i2, i3⟩, ⟨i4, i5⟩, ⟨i6, i7⟩, i8, ⟨i9, i11⟩, i10, hrt⟩ := hinv0
  refine lv_iload_n S.x S.b d_Txp_peek_0 rfl (lv_at hl 1 rfl) ?_
  refine lv_if_lt (tgt := 22) S.x S.b d_Txp_peek_1 (by decide) (fun c1 => ?_) (fun c1 => ?_)
  · have nc1 : p0.toInt < (0 : Int) := (i_lt (x := p0) (y := 0)).mp c1
    refine lv_iconst (v := 0) S.x S.b d_Txp_peek_22 (by decide) ?_
    exact px_iret (v := 0) S hr rfl hlk hAe hw (Nat.le_of_ble_eq_true rfl) (Nat.le_of_ble_eq_true rfl) (rfl) d_Txp_peek_23
  · have nc1 : ¬ p0.toInt < (0 : Int) := mt (i_lt (x := p0) (y := 0)).mpr c1
    refine lv_iload_n S.x S.b d_Txp_peek_4 rfl (lv_at hl 1 rfl) ?_
    refine lv_aload_n S.x S.b d_Txp_peek_5 rfl (lv_at hl 0 rfl) ?_
    refine px_get S k_Txp hT hw 0 0 0 (v := .ref (r 0)) rfl rfl rfl (by decide) m6_213 d_Txp_peek_6 ?_
    refine px_len S hT hw 0 1 0 rfl rfl rfl (v := 8704) rfl d_Txp_peek_9 ?_
    refine lv_icmp_ge (tgt := 22) S.x S.b d_Txp_peek_10 (by decide) (fun c2 => ?_) (fun c2 => ?_)
    · have nc2 : (8704 : Int) ≤ p0.toInt := (i_le (x := 8704) (y := p0)).mp c2
      refine lv_iconst (v := 0) S.x S.b d_Txp_peek_22 (by decide) ?_
      exact px_iret (v := 0) S hr rfl hlk hAe hw (Nat.le_of_ble_eq_true rfl) (Nat.le_of_ble_eq_true rfl) (rfl) d_Txp_peek_23
    · have nc2 : ¬ (8704 : Int) ≤ p0.toInt := mt (i_le (x := 8704) (y := p0)).mpr c2
      refine lv_aload_n S.x S.b d_Txp_peek_13 rfl (lv_at hl 0 rfl) ?_
      refine px_get S k_Txp hT hw 0 0 0 (v := .ref (r 0)) rfl rfl rfl (by decide) m6_213 d_Txp_peek_14 ?_
      refine lv_iload_n S.x S.b d_Txp_peek_17 rfl (lv_at hl 1 rfl) ?_
      refine px_iald S hT hw 0 1 (n := 8704) (f := (a 0)) rfl (ga_Txp_0 _ _ _ _ _ _ _) (x := p0) (vp_in_iff.mpr (by first | exact oz_48695ba6d4 nc1 nc2 | (constructor <;> omega))) d_Txp_peek_18 ?_
      refine lv_topi (fun z3 ez3 => ?_)
      have lz3 := Int32.le_toInt z3
      have uz3 := Int32.toInt_lt z3
      refine lv_goto (tgt := 23) S.x S.b d_Txp_peek_19 (by decide) ?_
      exact px_iret (v := z3) S hr rfl hlk hAe hw (Nat.le_of_ble_eq_true rfl) (Nat.le_of_ble_eq_true rfl) (rfl) d_Txp_peek_23
abbrev b_Txp_poke : ByteArray := prog_11_method_9_code
def y_Txp_poke : MethodName := ⟨"HomeSystem$TextProcess", "poke", "(II)V"⟩
theorem d_Txp_poke_0 : decode b_Txp_poke 0 = .ok (.iload_n 1, 1) := by decide +kernel
theorem d_Txp_poke_1 : decode b_Txp_poke 1 = .ok (.ifCond .lt 19, 3) := by decide +kernel
theorem d_Txp_poke_4 : decode b_Txp_poke 4 = .ok (.iload_n 1, 1) := by decide +kernel
theorem d_Txp_poke_5 : decode b_Txp_poke 5 = .ok (.aload_n 0, 1) := by decide +kernel
theorem d_Txp_poke_6 : decode b_Txp_poke 6 = .ok (.getfield 9, 3) := by decide +kernel
theorem d_Txp_poke_9 : decode b_Txp_poke 9 = .ok (.arraylength, 1) := by decide +kernel
theorem d_Txp_poke_10 : decode b_Txp_poke 10 = .ok (.if_icmp .ge 10, 3) := by decide +kernel
theorem d_Txp_poke_13 : decode b_Txp_poke 13 = .ok (.aload_n 0, 1) := by decide +kernel
theorem d_Txp_poke_14 : decode b_Txp_poke 14 = .ok (.getfield 9, 3) := by decide +kernel
theorem d_Txp_poke_17 : decode b_Txp_poke 17 = .ok (.iload_n 1, 1) := by decide +kernel
theorem d_Txp_poke_18 : decode b_Txp_poke 18 = .ok (.iload_n 2, 1) := by decide +kernel
theorem d_Txp_poke_19 : decode b_Txp_poke 19 = .ok (.iastore, 1) := by decide +kernel
theorem d_Txp_poke_20 : decode b_Txp_poke 20 = .ok (.return_, 1) := by decide +kernel
theorem q_Txp_poke : px_y y_Txp_poke 2 := by unfold px_y; decide +kernel
set_option maxHeartbeats 4000000 in
set_option maxRecDepth 100000 in
theorem c_Txp_poke (l : Launch) (D : va_G) (cs : Nat → ClassId) (h : Nat) (r : Nat → Nat) (g : Nat → Nat → Option Nat) (hp : Nat) (f : Nat → Int32) (a : Nat → Nat → Int32) (p0 p1 : Int32)  (hinv0 : TxOk (f 4) (f 5) (f 8) (f 9) (f 17) (f 21) (a 2)) : MetV l y_Txp_poke b_Txp_poke 3 D cs 0 0 (0) (0) [.ref h, .int p0, .int p1] [wd_Txp cs h r (fun k => if k = 3 then (some hp) else none) f a g] (fun _ => True) (fun ps => ∃ (f' : Nat → Int32) (a' : Nat → Nat → Int32), (ps = [wd_Txp cs h r (fun k => if k = 3 then (some hp) else none) f' a' g]) ∧ (TxOk (f' 4) (f' 5) (f' 8) (f' 9) (f' 17) (f' 21) (a' 2)) ∧ ((f' 9).toInt = (f 9).toInt) ∧ ((f' 17).toInt = (f 17).toInt) ∧ ((f' 21).toInt = (f 21).toInt) ∧ ((f' 15).toInt = (f 15).toInt) ∧ ((f' 20).toInt = (f 20).toInt) ∧ ((f' 4).toInt = (f 4).toInt)) := by
  refine px_enter (by decide) (Nat.le_of_ble_eq_true rfl) ?_
  intro p e s m below meth c A ls hAe S hr hlk hnm hA hT hX hw hl
  have hl : lv_has ls 3 [(0, .ref h), (1, .int p0), (2, .int p1)] := hl
  have lp0 := Int32.le_toInt p0
  have up0 := Int32.toInt_lt p0
  have lp1 := Int32.le_toInt p1
  have up1 := Int32.toInt_lt p1
  obtain ⟨lk, ⟨i2, i3⟩, ⟨i4, i5⟩, ⟨i6, i7⟩, i8, ⟨i9, i11⟩, i10, hrt⟩ := hinv0
  refine lv_iload_n S.x S.b d_Txp_poke_0 rfl (lv_at hl 1 rfl) ?_
  refine lv_if_lt (tgt := 20) S.x S.b d_Txp_poke_1 (by decide) (fun c1 => ?_) (fun c1 => ?_)
  · have nc1 : p0.toInt < (0 : Int) := (i_lt (x := p0) (y := 0)).mp c1
    first | exact px_vret S hr hlk hAe hw (Nat.le_of_ble_eq_true rfl) (Nat.le_of_ble_eq_true rfl) (⟨f, a, rfl, (show TxOk (f 4) (f 5) (f 8) (f 9) (f 17) (f 21) (a 2) from ⟨lk, ⟨i2, i3⟩, ⟨i4, i5⟩, ⟨i6, i7⟩, i8, ⟨i9, i11⟩, i10, hrt⟩), (show (f 9).toInt = (f 9).toInt from rfl), (show (f 17).toInt = (f 17).toInt from rfl), (show (f 21).toInt = (f 21).toInt from rfl), (show (f 15).toInt = (f 15).toInt from rfl), (show (f 20).toInt = (f 20).toInt from rfl), (show (f 4).toInt = (f 4).toInt from rfl)⟩) d_Txp_poke_20 | exact px_vret S hr hlk hAe hw (Nat.le_of_ble_eq_true rfl) (Nat.le_of_ble_eq_true rfl) (⟨f, a, rfl, (show TxOk (f 4) (f 5) (f 8) (f 9) (f 17) (f 21) (a 2) from ⟨lk, ⟨by first | exact i2 | omega, by first | exact i3 | omega⟩, ⟨by first | exact i4 | omega, by first | exact i5 | omega⟩, ⟨by first | exact i6 | omega, by first | exact i7 | omega⟩, by first | exact i8 | omega, ⟨by first | exact i9 | omega, by first | exact i11 | omega⟩, by first | exact i10 | omega, hrt⟩), (show (f 9).toInt = (f 9).toInt from rfl), (show (f 17).toInt = (f 17).toInt from rfl), (show (f 21).toInt = (f 21).toInt from rfl), (show (f 15).toInt = (f 15).toInt from rfl), (show (f 20).toInt = (f 20).toInt from rfl), (show (f 4).toInt = (f 4).toInt from rfl)⟩) d_Txp_poke_20
  · have nc1 : ¬ p0.toInt < (0 : Int) := mt (i_lt (x := p0) (y := 0)).mpr c1
    refine lv_iload_n S.x S.b d_Txp_poke_4 rfl (lv_at hl 1 rfl) ?_
    refine lv_aload_n S.x S.b d_Txp_poke_5 rfl (lv_at hl 0 rfl) ?_
    refine px_get S k_Txp hT hw 0 0 0 (v := .ref (r 0)) rfl rfl rfl (by decide) m6_213 d_Txp_poke_6 ?_
    refine px_len S hT hw 0 1 0 rfl rfl rfl (v := 8704) rfl d_Txp_poke_9 ?_
    refine lv_icmp_ge (tgt := 20) S.x S.b d_Txp_poke_10 (by decide) (fun c2 => ?_) (fun c2 => ?_)
    · have nc2 : (8704 : Int) ≤ p0.toInt := (i_le (x := 8704) (y := p0)).mp c2
      first | exact px_vret S hr hlk hAe hw (Nat.le_of_ble_eq_true rfl) (Nat.le_of_ble_eq_true rfl) (⟨f, a, rfl, (show TxOk (f 4) (f 5) (f 8) (f 9) (f 17) (f 21) (a 2) from ⟨lk, ⟨i2, i3⟩, ⟨i4, i5⟩, ⟨i6, i7⟩, i8, ⟨i9, i11⟩, i10, hrt⟩), (show (f 9).toInt = (f 9).toInt from rfl), (show (f 17).toInt = (f 17).toInt from rfl), (show (f 21).toInt = (f 21).toInt from rfl), (show (f 15).toInt = (f 15).toInt from rfl), (show (f 20).toInt = (f 20).toInt from rfl), (show (f 4).toInt = (f 4).toInt from rfl)⟩) d_Txp_poke_20 | exact px_vret S hr hlk hAe hw (Nat.le_of_ble_eq_true rfl) (Nat.le_of_ble_eq_true rfl) (⟨f, a, rfl, (show TxOk (f 4) (f 5) (f 8) (f 9) (f 17) (f 21) (a 2) from ⟨lk, ⟨by first | exact i2 | omega, by first | exact i3 | omega⟩, ⟨by first | exact i4 | omega, by first | exact i5 | omega⟩, ⟨by first | exact i6 | omega, by first | exact i7 | omega⟩, by first | exact i8 | omega, ⟨by first | exact i9 | omega, by first | exact i11 | omega⟩, by first | exact i10 | omega, hrt⟩), (show (f 9).toInt = (f 9).toInt from rfl), (show (f 17).toInt = (f 17).toInt from rfl), (show (f 21).toInt = (f 21).toInt from rfl), (show (f 15).toInt = (f 15).toInt from rfl), (show (f 20).toInt = (f 20).toInt from rfl), (show (f 4).toInt = (f 4).toInt from rfl)⟩) d_Txp_poke_20
    · have nc2 : ¬ (8704 : Int) ≤ p0.toInt := mt (i_le (x := 8704) (y := p0)).mpr c2
      refine lv_aload_n S.x S.b d_Txp_poke_13 rfl (lv_at hl 0 rfl) ?_
      refine px_get S k_Txp hT hw 0 0 0 (v := .ref (r 0)) rfl rfl rfl (by decide) m6_213 d_Txp_poke_14 ?_
      refine lv_iload_n S.x S.b d_Txp_poke_17 rfl (lv_at hl 1 rfl) ?_
      refine lv_iload_n S.x S.b d_Txp_poke_18 rfl (lv_at hl 2 rfl) ?_
      refine px_iast S hT hw 0 1 (n := 8704) (f := (a 0)) (x := p0) (y := p1) rfl (ga_Txp_0 _ _ _ _ _ _ _) (vp_in_iff.mpr (by constructor <;> omega)) d_Txp_poke_19 (w' := wd_Txp cs h r (fun k => if k = 3 then (some hp) else none) f (va_up a 0 (upd (a 0) p0.toNatClampNeg p1)) g) (ps' := [wd_Txp cs h r (fun k => if k = 3 then (some hp) else none) f (va_up a 0 (upd (a 0) p0.toNatClampNeg p1)) g]) (sa_Txp_0 _ _ _ _ _ _ _ _) rfl (fun H locs hw => ?_)
      first | exact px_vret S hr hlk hAe hw (Nat.le_of_ble_eq_true rfl) (Nat.le_of_ble_eq_true rfl) (⟨f, (va_up a 0 (upd (a 0) p0.toNatClampNeg p1)), rfl, (show TxOk (f 4) (f 5) (f 8) (f 9) (f 17) (f 21) ((va_up a 0 (upd (a 0) p0.toNatClampNeg p1)) 2) from ⟨lk, ⟨i2, i3⟩, ⟨i4, i5⟩, ⟨i6, i7⟩, i8, ⟨i9, i11⟩, i10, (by rw [va_up_n (by decide)]; exact hrt)⟩), (show (f 9).toInt = (f 9).toInt from rfl), (show (f 17).toInt = (f 17).toInt from rfl), (show (f 21).toInt = (f 21).toInt from rfl), (show (f 15).toInt = (f 15).toInt from rfl), (show (f 20).toInt = (f 20).toInt from rfl), (show (f 4).toInt = (f 4).toInt from rfl)⟩) d_Txp_poke_20 | exact px_vret S hr hlk hAe hw (Nat.le_of_ble_eq_true rfl) (Nat.le_of_ble_eq_true rfl) (⟨f, (va_up a 0 (upd (a 0) p0.toNatClampNeg p1)), rfl, (show TxOk (f 4) (f 5) (f 8) (f 9) (f 17) (f 21) ((va_up a 0 (upd (a 0) p0.toNatClampNeg p1)) 2) from ⟨lk, ⟨by first | exact i2 | omega, by first | exact i3 | omega⟩, ⟨by first | exact i4 | omega, by first | exact i5 | omega⟩, ⟨by first | exact i6 | omega, by first | exact i7 | omega⟩, by first | exact i8 | omega, ⟨by first | exact i9 | omega, by first | exact i11 | omega⟩, by first | exact i10 | omega, (by rw [va_up_n (by decide)]; exact hrt)⟩), (show (f 9).toInt = (f 9).toInt from rfl), (show (f 17).toInt = (f 17).toInt from rfl), (show (f 21).toInt = (f 21).toInt from rfl), (show (f 15).toInt = (f 15).toInt from rfl), (show (f 20).toInt = (f 20).toInt from rfl), (show (f 4).toInt = (f 4).toInt from rfl)⟩) d_Txp_poke_20
abbrev b_Txp_push : ByteArray := prog_11_method_10_code
def y_Txp_push : MethodName := ⟨"HomeSystem$TextProcess", "push", "(I)V"⟩
theorem d_Txp_push_0 : decode b_Txp_push 0 = .ok (.aload_n 0, 1) := by decide +kernel
theorem d_Txp_push_1 : decode b_Txp_push 1 = .ok (.getfield 44, 3) := by decide +kernel
theorem d_Txp_push_4 : decode b_Txp_push 4 = .ok (.aload_n 0, 1) := by decide +kernel
theorem d_Txp_push_5 : decode b_Txp_push 5 = .ok (.getfield 15, 3) := by decide +kernel
theorem d_Txp_push_8 : decode b_Txp_push 8 = .ok (.arraylength, 1) := by decide +kernel
theorem d_Txp_push_9 : decode b_Txp_push 9 = .ok (.if_icmp .ge 23, 3) := by decide +kernel
theorem d_Txp_push_12 : decode b_Txp_push 12 = .ok (.aload_n 0, 1) := by decide +kernel
theorem d_Txp_push_13 : decode b_Txp_push 13 = .ok (.getfield 15, 3) := by decide +kernel
theorem d_Txp_push_16 : decode b_Txp_push 16 = .ok (.aload_n 0, 1) := by decide +kernel
theorem d_Txp_push_17 : decode b_Txp_push 17 = .ok (.getfield 44, 3) := by decide +kernel
theorem d_Txp_push_20 : decode b_Txp_push 20 = .ok (.iload_n 1, 1) := by decide +kernel
theorem d_Txp_push_21 : decode b_Txp_push 21 = .ok (.iastore, 1) := by decide +kernel
theorem d_Txp_push_22 : decode b_Txp_push 22 = .ok (.aload_n 0, 1) := by decide +kernel
theorem d_Txp_push_23 : decode b_Txp_push 23 = .ok (.dup, 1) := by decide +kernel
theorem d_Txp_push_24 : decode b_Txp_push 24 = .ok (.getfield 44, 3) := by decide +kernel
theorem d_Txp_push_27 : decode b_Txp_push 27 = .ok (.iconst 1, 1) := by decide +kernel
theorem d_Txp_push_28 : decode b_Txp_push 28 = .ok (.iadd, 1) := by decide +kernel
theorem d_Txp_push_29 : decode b_Txp_push 29 = .ok (.putfield 44, 3) := by decide +kernel
theorem d_Txp_push_32 : decode b_Txp_push 32 = .ok (.return_, 1) := by decide +kernel
theorem q_Txp_push : px_y y_Txp_push 1 := by unfold px_y; decide +kernel
set_option maxHeartbeats 4000000 in
set_option maxRecDepth 100000 in
theorem c_Txp_push (l : Launch) (D : va_G) (cs : Nat → ClassId) (h : Nat) (r : Nat → Nat) (g : Nat → Nat → Option Nat) (hp : Nat) (f : Nat → Int32) (a : Nat → Nat → Int32) (p0 : Int32)  (hinv0 : TxOk (f 4) (f 5) (f 8) (f 9) (f 17) (f 21) (a 2)) : MetV l y_Txp_push b_Txp_push 2 D cs 0 0 (0) (0) [.ref h, .int p0] [wd_Txp cs h r (fun k => if k = 3 then (some hp) else none) f a g] (fun _ => True) (fun ps => ∃ (f' : Nat → Int32) (a' : Nat → Nat → Int32), (ps = [wd_Txp cs h r (fun k => if k = 3 then (some hp) else none) f' a' g]) ∧ (TxOk (f' 4) (f' 5) (f' 8) (f' 9) (f' 17) (f' 21) (a' 2)) ∧ ((f' 9).toInt = (f 9).toInt) ∧ ((f' 17).toInt = (f 17).toInt) ∧ ((f' 21).toInt = (f 21).toInt) ∧ ((f' 15).toInt = (f 15).toInt) ∧ ((f' 20).toInt = (f 20).toInt) ∧ ((f' 4).toInt = (f 4).toInt)) := by
  refine px_enter (by decide) (Nat.le_of_ble_eq_true rfl) ?_
  intro p e s m below meth c A ls hAe S hr hlk hnm hA hT hX hw hl
  have hl : lv_has ls 2 [(0, .ref h), (1, .int p0)] := hl
  have lp0 := Int32.le_toInt p0
  have up0 := Int32.toInt_lt p0
  have cst1 : (1 : Int32).toInt = 1 := rfl
  obtain ⟨lk, ⟨i2, i3⟩, ⟨i4, i5⟩, ⟨i6, i7⟩, i8, ⟨i9, i11⟩, i10, hrt⟩ := hinv0
  refine lv_aload_n S.x S.b d_Txp_push_0 rfl (lv_at hl 0 rfl) ?_
  refine px_get S k_Txp hT hw 0 0 5 (v := .int (f 5)) rfl rfl rfl (by decide) m6_218 d_Txp_push_1 ?_
  refine lv_aload_n S.x S.b d_Txp_push_4 rfl (lv_at hl 0 rfl) ?_
  refine px_get S k_Txp hT hw 0 0 1 (v := .ref (r 1)) rfl rfl rfl (by decide) m6_214 d_Txp_push_5 ?_
  refine px_len S hT hw 0 2 0 rfl rfl rfl (v := 516) rfl d_Txp_push_8 ?_
  refine lv_icmp_ge (tgt := 32) S.x S.b d_Txp_push_9 (by decide) (fun c1 => ?_) (fun c1 => ?_)
  · have nc1 : (516 : Int) ≤ (f 5).toInt := (i_le (x := 516) (y := (f 5))).mp c1
    first | exact px_vret S hr hlk hAe hw (Nat.le_of_ble_eq_true rfl) (Nat.le_of_ble_eq_true rfl) (⟨f, a, rfl, (show TxOk (f 4) (f 5) (f 8) (f 9) (f 17) (f 21) (a 2) from ⟨lk, ⟨i2, i3⟩, ⟨i4, i5⟩, ⟨i6, i7⟩, i8, ⟨i9, i11⟩, i10, hrt⟩), (show (f 9).toInt = (f 9).toInt from rfl), (show (f 17).toInt = (f 17).toInt from rfl), (show (f 21).toInt = (f 21).toInt from rfl), (show (f 15).toInt = (f 15).toInt from rfl), (show (f 20).toInt = (f 20).toInt from rfl), (show (f 4).toInt = (f 4).toInt from rfl)⟩) d_Txp_push_32 | exact px_vret S hr hlk hAe hw (Nat.le_of_ble_eq_true rfl) (Nat.le_of_ble_eq_true rfl) (⟨f, a, rfl, (show TxOk (f 4) (f 5) (f 8) (f 9) (f 17) (f 21) (a 2) from ⟨lk, ⟨by first | exact i2 | omega, by first | exact i3 | omega⟩, ⟨by first | exact i4 | omega, by first | exact i5 | omega⟩, ⟨by first | exact i6 | omega, by first | exact i7 | omega⟩, by first | exact i8 | omega, ⟨by first | exact i9 | omega, by first | exact i11 | omega⟩, by first | exact i10 | omega, hrt⟩), (show (f 9).toInt = (f 9).toInt from rfl), (show (f 17).toInt = (f 17).toInt from rfl), (show (f 21).toInt = (f 21).toInt from rfl), (show (f 15).toInt = (f 15).toInt from rfl), (show (f 20).toInt = (f 20).toInt from rfl), (show (f 4).toInt = (f 4).toInt from rfl)⟩) d_Txp_push_32
  · have nc1 : ¬ (516 : Int) ≤ (f 5).toInt := mt (i_le (x := 516) (y := (f 5))).mpr c1
    refine lv_aload_n S.x S.b d_Txp_push_12 rfl (lv_at hl 0 rfl) ?_
    refine px_get S k_Txp hT hw 0 0 1 (v := .ref (r 1)) rfl rfl rfl (by decide) m6_214 d_Txp_push_13 ?_
    refine lv_aload_n S.x S.b d_Txp_push_16 rfl (lv_at hl 0 rfl) ?_
    refine px_get S k_Txp hT hw 0 0 5 (v := .int (f 5)) rfl rfl rfl (by decide) m6_218 d_Txp_push_17 ?_
    refine lv_iload_n S.x S.b d_Txp_push_20 rfl (lv_at hl 1 rfl) ?_
    refine px_iast S hT hw 0 2 (n := 516) (f := (a 1)) (x := (f 5)) (y := p0) rfl (ga_Txp_1 _ _ _ _ _ _ _) (vp_in_iff.mpr (by constructor <;> omega)) d_Txp_push_21 (w' := wd_Txp cs h r (fun k => if k = 3 then (some hp) else none) f (va_up a 1 (upd (a 1) (f 5).toNatClampNeg p0)) g) (ps' := [wd_Txp cs h r (fun k => if k = 3 then (some hp) else none) f (va_up a 1 (upd (a 1) (f 5).toNatClampNeg p0)) g]) (sa_Txp_1 _ _ _ _ _ _ _ _) rfl (fun H locs hw => ?_)
    refine lv_aload_n S.x S.b d_Txp_push_22 rfl (lv_at hl 0 rfl) ?_
    refine lv_dup S.x S.b d_Txp_push_23 rfl ?_
    refine px_get S k_Txp hT hw 0 0 5 (v := .int (f 5)) rfl rfl rfl (by decide) m6_218 d_Txp_push_24 ?_
    refine lv_iconst (v := 1) S.x S.b d_Txp_push_27 (by decide) ?_
    refine lv_iadd S.x S.b d_Txp_push_28 ?_
    have lr2 := Int32.le_toInt (f 5)
    have ur2 := Int32.toInt_lt (f 5)
    refine lv_topi (fun z3 ez3 => ?_)
    have tz3 : z3.toInt = ((f 5).toInt + (1 : Int) + 2147483648) % 4294967296 - 2147483648 := by rw [ez3]; exact i_add (f 5) 1
    have lz3 := Int32.le_toInt z3
    have uz3 := Int32.toInt_lt z3
    try replace tz3 : z3.toInt = (f 5).toInt + (1 : Int) := by omega
    refine px_put S k_Txp hT hw 0 0 5 rfl rfl (by decide) m6_218 rfl rfl rfl (Nat.le_of_ble_eq_true rfl) d_Txp_push_29 (w' := wd_Txp cs h r (fun k => if k = 3 then (some hp) else none) (upd f 5 z3) (va_up a 1 (upd (a 1) (f 5).toNatClampNeg p0)) g) (ps' := [wd_Txp cs h r (fun k => if k = 3 then (some hp) else none) (upd f 5 z3) (va_up a 1 (upd (a 1) (f 5).toNatClampNeg p0)) g]) rfl rfl (fun H locs hw => ?_)
    first | exact px_vret S hr hlk hAe hw (Nat.le_of_ble_eq_true rfl) (Nat.le_of_ble_eq_true rfl) (⟨(upd f 5 z3), (va_up a 1 (upd (a 1) (f 5).toNatClampNeg p0)), rfl, (show TxOk (f 4) z3 (f 8) (f 9) (f 17) (f 21) ((va_up a 1 (upd (a 1) (f 5).toNatClampNeg p0)) 2) from ⟨lk, ⟨(oz_b3b25f0e49 tz3 i2), (oz_675fb4090f tz3 nc1)⟩, ⟨i4, i5⟩, ⟨i6, i7⟩, i8, ⟨i9, i11⟩, i10, (by rw [va_up_n (by decide)]; exact hrt)⟩), (show (f 9).toInt = (f 9).toInt from rfl), (show (f 17).toInt = (f 17).toInt from rfl), (show (f 21).toInt = (f 21).toInt from rfl), (show (f 15).toInt = (f 15).toInt from rfl), (show (f 20).toInt = (f 20).toInt from rfl), (show (f 4).toInt = (f 4).toInt from rfl)⟩) d_Txp_push_32 | exact px_vret S hr hlk hAe hw (Nat.le_of_ble_eq_true rfl) (Nat.le_of_ble_eq_true rfl) (⟨(upd f 5 z3), (va_up a 1 (upd (a 1) (f 5).toNatClampNeg p0)), rfl, (show TxOk (f 4) z3 (f 8) (f 9) (f 17) (f 21) ((va_up a 1 (upd (a 1) (f 5).toNatClampNeg p0)) 2) from ⟨lk, ⟨by first | exact oz_b3b25f0e49 tz3 i2 | omega, by first | exact oz_675fb4090f tz3 nc1 | omega⟩, ⟨by first | exact i4 | omega, by first | exact i5 | omega⟩, ⟨by first | exact i6 | omega, by first | exact i7 | omega⟩, by first | exact i8 | omega, ⟨by first | exact i9 | omega, by first | exact i11 | omega⟩, by first | exact i10 | omega, (by rw [va_up_n (by decide)]; exact hrt)⟩), (show (f 9).toInt = (f 9).toInt from rfl), (show (f 17).toInt = (f 17).toInt from rfl), (show (f 21).toInt = (f 21).toInt from rfl), (show (f 15).toInt = (f 15).toInt from rfl), (show (f 20).toInt = (f 20).toInt from rfl), (show (f 4).toInt = (f 4).toInt from rfl)⟩) d_Txp_push_32
abbrev b_Txp_pop : ByteArray := prog_11_method_11_code
def y_Txp_pop : MethodName := ⟨"HomeSystem$TextProcess", "pop", "()I"⟩
theorem d_Txp_pop_0 : decode b_Txp_pop 0 = .ok (.aload_n 0, 1) := by decide +kernel
theorem d_Txp_pop_1 : decode b_Txp_pop 1 = .ok (.getfield 44, 3) := by decide +kernel
theorem d_Txp_pop_4 : decode b_Txp_pop 4 = .ok (.ifCond .le 13, 3) := by decide +kernel
theorem d_Txp_pop_7 : decode b_Txp_pop 7 = .ok (.aload_n 0, 1) := by decide +kernel
theorem d_Txp_pop_8 : decode b_Txp_pop 8 = .ok (.dup, 1) := by decide +kernel
theorem d_Txp_pop_9 : decode b_Txp_pop 9 = .ok (.getfield 44, 3) := by decide +kernel
theorem d_Txp_pop_12 : decode b_Txp_pop 12 = .ok (.iconst 1, 1) := by decide +kernel
theorem d_Txp_pop_13 : decode b_Txp_pop 13 = .ok (.isub, 1) := by decide +kernel
theorem d_Txp_pop_14 : decode b_Txp_pop 14 = .ok (.putfield 44, 3) := by decide +kernel
theorem d_Txp_pop_17 : decode b_Txp_pop 17 = .ok (.aload_n 0, 1) := by decide +kernel
theorem d_Txp_pop_18 : decode b_Txp_pop 18 = .ok (.getfield 15, 3) := by decide +kernel
theorem d_Txp_pop_21 : decode b_Txp_pop 21 = .ok (.aload_n 0, 1) := by decide +kernel
theorem d_Txp_pop_22 : decode b_Txp_pop 22 = .ok (.getfield 44, 3) := by decide +kernel
theorem d_Txp_pop_25 : decode b_Txp_pop 25 = .ok (.iaload, 1) := by decide +kernel
theorem d_Txp_pop_26 : decode b_Txp_pop 26 = .ok (.ireturn, 1) := by decide +kernel
theorem q_Txp_pop : px_y y_Txp_pop 0 := by unfold px_y; decide +kernel
set_option maxHeartbeats 4000000 in
set_option maxRecDepth 100000 in
theorem c_Txp_pop (l : Launch) (D : va_G) (cs : Nat → ClassId) (h : Nat) (r : Nat → Nat) (g : Nat → Nat → Option Nat) (hp : Nat) (f : Nat → Int32) (a : Nat → Nat → Int32)  (hinv0 : TxOk (f 4) (f 5) (f 8) (f 9) (f 17) (f 21) (a 2)) : MetI l y_Txp_pop b_Txp_pop 1 (.int) D cs 0 0 (0) (0) [.ref h] [wd_Txp cs h r (fun k => if k = 3 then (some hp) else none) f a g] (fun _ => True) (fun v ps => ∃ (f' : Nat → Int32) (a' : Nat → Nat → Int32), (ps = [wd_Txp cs h r (fun k => if k = 3 then (some hp) else none) f' a' g]) ∧ (TxOk (f' 4) (f' 5) (f' 8) (f' 9) (f' 17) (f' 21) (a' 2)) ∧ ((f' 9).toInt = (f 9).toInt) ∧ ((f' 17).toInt = (f 17).toInt) ∧ ((f' 21).toInt = (f 21).toInt) ∧ ((f' 15).toInt = (f 15).toInt) ∧ ((f' 20).toInt = (f 20).toInt) ∧ ((f' 4).toInt = (f 4).toInt)) := by
  refine px_enter (by decide) (Nat.le_of_ble_eq_true rfl) ?_
  intro p e s m below meth c A ls hAe S hr hlk hnm hA hT hX hw hl
  have hl : lv_has ls 1 [(0, .ref h)] := hl
  have cst1 : (1 : Int32).toInt = 1 := rfl
  obtain ⟨lk, ⟨i2, i3⟩, ⟨i4, i5⟩, ⟨i6, i7⟩, i8, ⟨i9, i11⟩, i10, hrt⟩ := hinv0
  refine lv_aload_n S.x S.b d_Txp_pop_0 rfl (lv_at hl 0 rfl) ?_
  refine px_get S k_Txp hT hw 0 0 5 (v := .int (f 5)) rfl rfl rfl (by decide) m6_218 d_Txp_pop_1 ?_
  refine lv_if_le (tgt := 17) S.x S.b d_Txp_pop_4 (by decide) (fun c1 => ?_) (fun c1 => ?_)
  · have nc1 : (f 5).toInt ≤ (0 : Int) := (i_le (x := (f 5)) (y := 0)).mp c1
    refine lv_aload_n S.x S.b d_Txp_pop_17 rfl (lv_at hl 0 rfl) ?_
    refine px_get S k_Txp hT hw 0 0 1 (v := .ref (r 1)) rfl rfl rfl (by decide) m6_214 d_Txp_pop_18 ?_
    refine lv_aload_n S.x S.b d_Txp_pop_21 rfl (lv_at hl 0 rfl) ?_
    refine px_get S k_Txp hT hw 0 0 5 (v := .int (f 5)) rfl rfl rfl (by decide) m6_218 d_Txp_pop_22 ?_
    refine px_iald S hT hw 0 2 (n := 516) (f := (a 1)) rfl (ga_Txp_1 _ _ _ _ _ _ _) (x := (f 5)) (vp_in_iff.mpr (by first | exact oz_c060c3d60c i2 nc1 | (constructor <;> omega))) d_Txp_pop_25 ?_
    refine lv_topi (fun z2 ez2 => ?_)
    have lz2 := Int32.le_toInt z2
    have uz2 := Int32.toInt_lt z2
    first | exact px_iret (v := z2) S hr rfl hlk hAe hw (Nat.le_of_ble_eq_true rfl) (Nat.le_of_ble_eq_true rfl) (⟨f, a, rfl, (show TxOk (f 4) (f 5) (f 8) (f 9) (f 17) (f 21) (a 2) from ⟨lk, ⟨i2, i3⟩, ⟨i4, i5⟩, ⟨i6, i7⟩, i8, ⟨i9, i11⟩, i10, hrt⟩), (show (f 9).toInt = (f 9).toInt from rfl), (show (f 17).toInt = (f 17).toInt from rfl), (show (f 21).toInt = (f 21).toInt from rfl), (show (f 15).toInt = (f 15).toInt from rfl), (show (f 20).toInt = (f 20).toInt from rfl), (show (f 4).toInt = (f 4).toInt from rfl)⟩) d_Txp_pop_26 | exact px_iret (v := z2) S hr rfl hlk hAe hw (Nat.le_of_ble_eq_true rfl) (Nat.le_of_ble_eq_true rfl) (⟨f, a, rfl, (show TxOk (f 4) (f 5) (f 8) (f 9) (f 17) (f 21) (a 2) from ⟨lk, ⟨by first | exact i2 | omega, by first | exact i3 | omega⟩, ⟨by first | exact i4 | omega, by first | exact i5 | omega⟩, ⟨by first | exact i6 | omega, by first | exact i7 | omega⟩, by first | exact i8 | omega, ⟨by first | exact i9 | omega, by first | exact i11 | omega⟩, by first | exact i10 | omega, hrt⟩), (show (f 9).toInt = (f 9).toInt from rfl), (show (f 17).toInt = (f 17).toInt from rfl), (show (f 21).toInt = (f 21).toInt from rfl), (show (f 15).toInt = (f 15).toInt from rfl), (show (f 20).toInt = (f 20).toInt from rfl), (show (f 4).toInt = (f 4).toInt from rfl)⟩) d_Txp_pop_26
  · have nc1 : ¬ (f 5).toInt ≤ (0 : Int) := mt (i_le (x := (f 5)) (y := 0)).mpr c1
    refine lv_aload_n S.x S.b d_Txp_pop_7 rfl (lv_at hl 0 rfl) ?_
    refine lv_dup S.x S.b d_Txp_pop_8 rfl ?_
    refine px_get S k_Txp hT hw 0 0 5 (v := .int (f 5)) rfl rfl rfl (by decide) m6_218 d_Txp_pop_9 ?_
    refine lv_iconst (v := 1) S.x S.b d_Txp_pop_12 (by decide) ?_
    refine lv_isub S.x S.b d_Txp_pop_13 ?_
    have lr3 := Int32.le_toInt (f 5)
    have ur3 := Int32.toInt_lt (f 5)
    refine lv_topi (fun z4 ez4 => ?_)
    have tz4 : z4.toInt = ((f 5).toInt - (1 : Int) + 2147483648) % 4294967296 - 2147483648 := by rw [ez4]; exact i_sub (f 5) 1
    have lz4 := Int32.le_toInt z4
    have uz4 := Int32.toInt_lt z4
    try replace tz4 : z4.toInt = (f 5).toInt - (1 : Int) := by omega
    refine px_put S k_Txp hT hw 0 0 5 rfl rfl (by decide) m6_218 rfl rfl rfl (Nat.le_of_ble_eq_true rfl) d_Txp_pop_14 (w' := wd_Txp cs h r (fun k => if k = 3 then (some hp) else none) (upd f 5 z4) a g) (ps' := [wd_Txp cs h r (fun k => if k = 3 then (some hp) else none) (upd f 5 z4) a g]) rfl rfl (fun H locs hw => ?_)
    refine lv_aload_n S.x S.b d_Txp_pop_17 rfl (lv_at hl 0 rfl) ?_
    refine px_get S k_Txp hT hw 0 0 1 (v := .ref (r 1)) rfl rfl rfl (by decide) m6_214 d_Txp_pop_18 ?_
    refine lv_aload_n S.x S.b d_Txp_pop_21 rfl (lv_at hl 0 rfl) ?_
    refine px_get S k_Txp hT hw 0 0 5 (v := .int z4) rfl rfl rfl (by decide) m6_218 d_Txp_pop_22 ?_
    refine px_iald S hT hw 0 2 (n := 516) (f := (a 1)) rfl (ga_Txp_1 _ _ _ _ _ _ _) (x := z4) (vp_in_iff.mpr (by first | exact oz_b341981ef4 tz4 nc1 i3 | (constructor <;> omega))) d_Txp_pop_25 ?_
    refine lv_topi (fun z5 ez5 => ?_)
    have lz5 := Int32.le_toInt z5
    have uz5 := Int32.toInt_lt z5
    first | exact px_iret (v := z5) S hr rfl hlk hAe hw (Nat.le_of_ble_eq_true rfl) (Nat.le_of_ble_eq_true rfl) (⟨(upd f 5 z4), a, rfl, (show TxOk (f 4) z4 (f 8) (f 9) (f 17) (f 21) (a 2) from ⟨lk, ⟨(oz_45420e1a93 tz4 nc1), (oz_f3c6005390 tz4 i3)⟩, ⟨i4, i5⟩, ⟨i6, i7⟩, i8, ⟨i9, i11⟩, i10, hrt⟩), (show (f 9).toInt = (f 9).toInt from rfl), (show (f 17).toInt = (f 17).toInt from rfl), (show (f 21).toInt = (f 21).toInt from rfl), (show (f 15).toInt = (f 15).toInt from rfl), (show (f 20).toInt = (f 20).toInt from rfl), (show (f 4).toInt = (f 4).toInt from rfl)⟩) d_Txp_pop_26 | exact px_iret (v := z5) S hr rfl hlk hAe hw (Nat.le_of_ble_eq_true rfl) (Nat.le_of_ble_eq_true rfl) (⟨(upd f 5 z4), a, rfl, (show TxOk (f 4) z4 (f 8) (f 9) (f 17) (f 21) (a 2) from ⟨lk, ⟨by first | exact oz_45420e1a93 tz4 nc1 | omega, by first | exact oz_f3c6005390 tz4 i3 | omega⟩, ⟨by first | exact i4 | omega, by first | exact i5 | omega⟩, ⟨by first | exact i6 | omega, by first | exact i7 | omega⟩, by first | exact i8 | omega, ⟨by first | exact i9 | omega, by first | exact i11 | omega⟩, by first | exact i10 | omega, hrt⟩), (show (f 9).toInt = (f 9).toInt from rfl), (show (f 17).toInt = (f 17).toInt from rfl), (show (f 21).toInt = (f 21).toInt from rfl), (show (f 15).toInt = (f 15).toInt from rfl), (show (f 20).toInt = (f 20).toInt from rfl), (show (f 4).toInt = (f 4).toInt from rfl)⟩) d_Txp_pop_26
abbrev b_Txp_rowStart : ByteArray := prog_11_method_15_code
def y_Txp_rowStart : MethodName := ⟨"HomeSystem$TextProcess", "rowStart", "(II)I"⟩
theorem d_Txp_rowStart_0 : decode b_Txp_rowStart 0 = .ok (.iload_n 1, 1) := by decide +kernel
theorem d_Txp_rowStart_1 : decode b_Txp_rowStart 1 = .ok (.bipush 8, 2) := by decide +kernel
theorem d_Txp_rowStart_3 : decode b_Txp_rowStart 3 = .ok (.iand, 1) := by decide +kernel
theorem d_Txp_rowStart_4 : decode b_Txp_rowStart 4 = .ok (.ifCond .eq 14, 3) := by decide +kernel
theorem d_Txp_rowStart_7 : decode b_Txp_rowStart 7 = .ok (.aload_n 0, 1) := by decide +kernel
theorem d_Txp_rowStart_8 : decode b_Txp_rowStart 8 = .ok (.aload_n 0, 1) := by decide +kernel
theorem d_Txp_rowStart_9 : decode b_Txp_rowStart 9 = .ok (.getfield 50, 3) := by decide +kernel
theorem d_Txp_rowStart_12 : decode b_Txp_rowStart 12 = .ok (.iload_n 2, 1) := by decide +kernel
theorem d_Txp_rowStart_13 : decode b_Txp_rowStart 13 = .ok (.iadd, 1) := by decide +kernel
theorem d_Txp_rowStart_14 : decode b_Txp_rowStart 14 = .ok (.invokevirtual 94, 3) := by decide +kernel
theorem d_Txp_rowStart_17 : decode b_Txp_rowStart 17 = .ok (.ireturn, 1) := by decide +kernel
theorem d_Txp_rowStart_18 : decode b_Txp_rowStart 18 = .ok (.iload_n 1, 1) := by decide +kernel
theorem d_Txp_rowStart_19 : decode b_Txp_rowStart 19 = .ok (.iconst 1, 1) := by decide +kernel
theorem d_Txp_rowStart_20 : decode b_Txp_rowStart 20 = .ok (.iand, 1) := by decide +kernel
theorem d_Txp_rowStart_21 : decode b_Txp_rowStart 21 = .ok (.ifCond .eq 12, 3) := by decide +kernel
theorem d_Txp_rowStart_24 : decode b_Txp_rowStart 24 = .ok (.aload_n 0, 1) := by decide +kernel
theorem d_Txp_rowStart_25 : decode b_Txp_rowStart 25 = .ok (.getfield 50, 3) := by decide +kernel
theorem d_Txp_rowStart_28 : decode b_Txp_rowStart 28 = .ok (.iload_n 2, 1) := by decide +kernel
theorem d_Txp_rowStart_29 : decode b_Txp_rowStart 29 = .ok (.iadd, 1) := by decide +kernel
theorem d_Txp_rowStart_30 : decode b_Txp_rowStart 30 = .ok (.goto 4, 3) := by decide +kernel
theorem d_Txp_rowStart_33 : decode b_Txp_rowStart 33 = .ok (.iload_n 2, 1) := by decide +kernel
theorem d_Txp_rowStart_34 : decode b_Txp_rowStart 34 = .ok (.ireturn, 1) := by decide +kernel
theorem q_Txp_rowStart : px_y y_Txp_rowStart 2 := by unfold px_y; decide +kernel
set_option maxHeartbeats 4000000 in
set_option maxRecDepth 100000 in
theorem c_Txp_rowStart (l : Launch) (D : va_G) (cs : Nat → ClassId) (h : Nat) (r : Nat → Nat) (g : Nat → Nat → Option Nat) (hp : Nat) (f : Nat → Int32) (a : Nat → Nat → Int32) (p0 p1 : Int32)  (hinv0 : TxOk (f 4) (f 5) (f 8) (f 9) (f 17) (f 21) (a 2)) : MetI l y_Txp_rowStart b_Txp_rowStart 3 (.int) D cs 1 30 (0) (0) [.ref h, .int p0, .int p1] [wd_Txp cs h r (fun k => if k = 3 then (some hp) else none) f a g] (fun _ => True) (fun v ps => (ps = [wd_Txp cs h r (fun k => if k = 3 then (some hp) else none) f a g])) := by
  refine px_enter (by decide) (Nat.le_of_ble_eq_true rfl) ?_
  intro p e s m below meth c A ls hAe S hr hlk hnm hA hT hX hw hl
  have hl : lv_has ls 3 [(0, .ref h), (1, .int p0), (2, .int p1)] := hl
  have lp0 := Int32.le_toInt p0
  have up0 := Int32.toInt_lt p0
  have lp1 := Int32.le_toInt p1
  have up1 := Int32.toInt_lt p1
  have cst1 : (1 : Int32).toInt = 1 := rfl
  have cst8 : (8 : Int32).toInt = 8 := rfl
  obtain ⟨lk, ⟨i2, i3⟩, ⟨i4, i5⟩, ⟨i6, i7⟩, i8, ⟨i9, i11⟩, i10, hrt⟩ := hinv0
  refine lv_iload_n S.x S.b d_Txp_rowStart_0 rfl (lv_at hl 1 rfl) ?_
  refine lv_bipush (v := 8) S.x S.b d_Txp_rowStart_1 (by decide) ?_
  refine lv_iand S.x S.b d_Txp_rowStart_3 ?_
  refine lv_topi (fun z1 ez1 => ?_)
  have lz1 := Int32.le_toInt z1
  have uz1 := Int32.toInt_lt z1
  refine lv_if_eq (tgt := 18) S.x S.b d_Txp_rowStart_4 (by decide) (fun c2 => ?_) (fun c2 => ?_)
  · have nc2 : z1.toInt = (0 : Int) := (i_eq (x := z1) (y := 0)).mp c2
    refine lv_iload_n S.x S.b d_Txp_rowStart_18 rfl (lv_at hl 1 rfl) ?_
    refine lv_iconst (v := 1) S.x S.b d_Txp_rowStart_19 (by decide) ?_
    refine lv_iand S.x S.b d_Txp_rowStart_20 ?_
    refine lv_topi (fun z3 ez3 => ?_)
    have lz3 := Int32.le_toInt z3
    have uz3 := Int32.toInt_lt z3
    have bz3 := i_andm p0 (m := 1) 1 (by decide) (by decide)
    rw [← ez3] at bz3
    have wz3 : 0 ≤ z3.toInt ∧ z3.toInt ≤ 1 := by simp only [Nat.reducePow, Int.reducePow] at bz3; omega
    refine lv_if_eq (tgt := 33) S.x S.b d_Txp_rowStart_21 (by decide) (fun c4 => ?_) (fun c4 => ?_)
    · have nc4 : z3.toInt = (0 : Int) := (i_eq (x := z3) (y := 0)).mp c4
      refine lv_iload_n S.x S.b d_Txp_rowStart_33 rfl (lv_at hl 2 rfl) ?_
      exact px_iret (v := p1) S hr rfl hlk hAe hw (Nat.le_of_ble_eq_true rfl) (Nat.le_of_ble_eq_true rfl) (rfl) d_Txp_rowStart_34
    · have nc4 : ¬ z3.toInt = (0 : Int) := mt (i_eq (x := z3) (y := 0)).mpr c4
      refine lv_aload_n S.x S.b d_Txp_rowStart_24 rfl (lv_at hl 0 rfl) ?_
      refine px_get S k_Txp hT hw 0 0 6 (v := .int (f 6)) rfl rfl rfl (by decide) m6_219 d_Txp_rowStart_25 ?_
      refine lv_iload_n S.x S.b d_Txp_rowStart_28 rfl (lv_at hl 2 rfl) ?_
      refine lv_iadd S.x S.b d_Txp_rowStart_29 ?_
      have lr5 := Int32.le_toInt (f 6)
      have ur5 := Int32.toInt_lt (f 6)
      refine lv_topi (fun z6 ez6 => ?_)
      have tz6 : z6.toInt = ((f 6).toInt + p1.toInt + 2147483648) % 4294967296 - 2147483648 := by rw [ez6]; exact i_add (f 6) p1
      have lz6 := Int32.le_toInt z6
      have uz6 := Int32.toInt_lt z6
      try replace tz6 : z6.toInt = (f 6).toInt + p1.toInt := by omega
      refine lv_goto (tgt := 34) S.x S.b d_Txp_rowStart_30 (by decide) ?_
      exact px_iret (v := z6) S hr rfl hlk hAe hw (Nat.le_of_ble_eq_true rfl) (Nat.le_of_ble_eq_true rfl) (rfl) d_Txp_rowStart_34
  · have nc2 : ¬ z1.toInt = (0 : Int) := mt (i_eq (x := z1) (y := 0)).mpr c2
    refine lv_aload_n S.x S.b d_Txp_rowStart_7 rfl (lv_at hl 0 rfl) ?_
    refine lv_aload_n S.x S.b d_Txp_rowStart_8 rfl (lv_at hl 0 rfl) ?_
    refine px_get S k_Txp hT hw 0 0 6 (v := .int (f 6)) rfl rfl rfl (by decide) m6_219 d_Txp_rowStart_9 ?_
    refine lv_iload_n S.x S.b d_Txp_rowStart_12 rfl (lv_at hl 2 rfl) ?_
    refine lv_iadd S.x S.b d_Txp_rowStart_13 ?_
    have lr7 := Int32.le_toInt (f 6)
    have ur7 := Int32.toInt_lt (f 6)
    refine lv_topi (fun z8 ez8 => ?_)
    have tz8 : z8.toInt = ((f 6).toInt + p1.toInt + 2147483648) % 4294967296 - 2147483648 := by rw [ez8]; exact i_add (f 6) p1
    have lz8 := Int32.le_toInt z8
    have uz8 := Int32.toInt_lt z8
    try replace tz8 : z8.toInt = (f 6).toInt + p1.toInt := by omega
    first | refine px_calli (pr := []) (px_runV (As := [.int z8]) (rest := []) S (c_Txp_peek l D cs h r g hp f a z8  (show TxOk (f 4) (f 5) (f 8) (f 9) (f 17) (f 21) (a 2) from ⟨lk, ⟨i2, i3⟩, ⟨i4, i5⟩, ⟨i6, i7⟩, i8, ⟨i9, i11⟩, i10, hrt⟩) _) hT (pr := []) (pcs := [wd_Txp cs h r (fun k => if k = 3 then (some hp) else none) f a g]) hw px_X.tt (px_recv hT hw 0 0 rfl rfl rfl) m8_146 m8_143 m8_145 ms_5_15 m1_35 q_Txp_peek ⟨Nat.le_of_ble_eq_true rfl, Nat.le_of_ble_eq_true rfl⟩ hl.1 rfl (Nat.le_of_ble_eq_true rfl) d_Txp_rowStart_14 ⟨Nat.le_of_ble_eq_true rfl, Nat.le_of_ble_eq_true rfl⟩) hw hA (fun v10 p9 H locs hp9 hw => ?_) | refine px_calli (pr := []) (px_runV (As := [.int z8]) (rest := []) S (c_Txp_peek l D cs h r g hp f a z8  (show TxOk (f 4) (f 5) (f 8) (f 9) (f 17) (f 21) (a 2) from ⟨lk, ⟨by first | exact i2 | omega, by first | exact i3 | omega⟩, ⟨by first | exact i4 | omega, by first | exact i5 | omega⟩, ⟨by first | exact i6 | omega, by first | exact i7 | omega⟩, by first | exact i8 | omega, ⟨by first | exact i9 | omega, by first | exact i11 | omega⟩, by first | exact i10 | omega, hrt⟩) _) hT (pr := []) (pcs := [wd_Txp cs h r (fun k => if k = 3 then (some hp) else none) f a g]) hw px_X.tt (px_recv hT hw 0 0 rfl rfl rfl) m8_146 m8_143 m8_145 ms_5_15 m1_35 q_Txp_peek ⟨Nat.le_of_ble_eq_true rfl, Nat.le_of_ble_eq_true rfl⟩ hl.1 rfl (Nat.le_of_ble_eq_true rfl) d_Txp_rowStart_14 ⟨Nat.le_of_ble_eq_true rfl, Nat.le_of_ble_eq_true rfl⟩) hw hA (fun v10 p9 H locs hp9 hw => ?_)
    subst hp9
    have lv10 := Int32.le_toInt v10
    have uv10 := Int32.toInt_lt v10
    exact px_iret (v := v10) S hr rfl hlk hAe hw (Nat.le_of_ble_eq_true rfl) (Nat.le_of_ble_eq_true rfl) (rfl) d_Txp_rowStart_17
abbrev b_Txp_rowLength : ByteArray := prog_11_method_16_code
def y_Txp_rowLength : MethodName := ⟨"HomeSystem$TextProcess", "rowLength", "(III)I"⟩
theorem d_Txp_rowLength_0 : decode b_Txp_rowLength 0 = .ok (.iload_n 1, 1) := by decide +kernel
theorem d_Txp_rowLength_1 : decode b_Txp_rowLength 1 = .ok (.bipush 8, 2) := by decide +kernel
theorem d_Txp_rowLength_3 : decode b_Txp_rowLength 3 = .ok (.iand, 1) := by decide +kernel
theorem d_Txp_rowLength_4 : decode b_Txp_rowLength 4 = .ok (.ifCond .eq 18, 3) := by decide +kernel
theorem d_Txp_rowLength_7 : decode b_Txp_rowLength 7 = .ok (.aload_n 0, 1) := by decide +kernel
theorem d_Txp_rowLength_8 : decode b_Txp_rowLength 8 = .ok (.aload_n 0, 1) := by decide +kernel
theorem d_Txp_rowLength_9 : decode b_Txp_rowLength 9 = .ok (.getfield 50, 3) := by decide +kernel
theorem d_Txp_rowLength_12 : decode b_Txp_rowLength 12 = .ok (.iload_n 2, 1) := by decide +kernel
theorem d_Txp_rowLength_13 : decode b_Txp_rowLength 13 = .ok (.iadd, 1) := by decide +kernel
theorem d_Txp_rowLength_14 : decode b_Txp_rowLength 14 = .ok (.iconst 1, 1) := by decide +kernel
theorem d_Txp_rowLength_15 : decode b_Txp_rowLength 15 = .ok (.iadd, 1) := by decide +kernel
theorem d_Txp_rowLength_16 : decode b_Txp_rowLength 16 = .ok (.invokevirtual 94, 3) := by decide +kernel
theorem d_Txp_rowLength_19 : decode b_Txp_rowLength 19 = .ok (.goto 4, 3) := by decide +kernel
theorem d_Txp_rowLength_22 : decode b_Txp_rowLength 22 = .ok (.iload_n 3, 1) := by decide +kernel
theorem d_Txp_rowLength_23 : decode b_Txp_rowLength 23 = .ok (.ireturn, 1) := by decide +kernel
theorem q_Txp_rowLength : px_y y_Txp_rowLength 3 := by unfold px_y; decide +kernel
set_option maxHeartbeats 4000000 in
set_option maxRecDepth 100000 in
theorem c_Txp_rowLength (l : Launch) (D : va_G) (cs : Nat → ClassId) (h : Nat) (r : Nat → Nat) (g : Nat → Nat → Option Nat) (hp : Nat) (f : Nat → Int32) (a : Nat → Nat → Int32) (p0 p1 p2 : Int32)  (hinv0 : TxOk (f 4) (f 5) (f 8) (f 9) (f 17) (f 21) (a 2)) : MetI l y_Txp_rowLength b_Txp_rowLength 4 (.int) D cs 1 30 (0) (0) [.ref h, .int p0, .int p1, .int p2] [wd_Txp cs h r (fun k => if k = 3 then (some hp) else none) f a g] (fun _ => True) (fun v ps => (ps = [wd_Txp cs h r (fun k => if k = 3 then (some hp) else none) f a g])) := by
  refine px_enter (by decide) (Nat.le_of_ble_eq_true rfl) ?_
  intro p e s m below meth c A ls hAe S hr hlk hnm hA hT hX hw hl
  have hl : lv_has ls 4 [(0, .ref h), (1, .int p0), (2, .int p1), (3, .int p2)] := hl
  have lp0 := Int32.le_toInt p0
  have up0 := Int32.toInt_lt p0
  have lp1 := Int32.le_toInt p1
  have up1 := Int32.toInt_lt p1
  have lp2 := Int32.le_toInt p2
  have up2 := Int32.toInt_lt p2
  have cst1 : (1 : Int32).toInt = 1 := rfl
  have cst8 : (8 : Int32).toInt = 8 := rfl
  obtain ⟨lk, ⟨i2, i3⟩, ⟨i4, i5⟩, ⟨i6, i7⟩, i8, ⟨i9, i11⟩, i10, hrt⟩ := hinv0
  refine lv_iload_n S.x S.b d_Txp_rowLength_0 rfl (lv_at hl 1 rfl) ?_
  refine lv_bipush (v := 8) S.x S.b d_Txp_rowLength_1 (by decide) ?_
  refine lv_iand S.x S.b d_Txp_rowLength_3 ?_
  refine lv_topi (fun z1 ez1 => ?_)
  have lz1 := Int32.le_toInt z1
  have uz1 := Int32.toInt_lt z1
  refine lv_if_eq (tgt := 22) S.x S.b d_Txp_rowLength_4 (by decide) (fun c2 => ?_) (fun c2 => ?_)
  · have nc2 : z1.toInt = (0 : Int) := (i_eq (x := z1) (y := 0)).mp c2
    refine lv_iload_n S.x S.b d_Txp_rowLength_22 rfl (lv_at hl 3 rfl) ?_
    exact px_iret (v := p2) S hr rfl hlk hAe hw (Nat.le_of_ble_eq_true rfl) (Nat.le_of_ble_eq_true rfl) (rfl) d_Txp_rowLength_23
  · have nc2 : ¬ z1.toInt = (0 : Int) := mt (i_eq (x := z1) (y := 0)).mpr c2
    refine lv_aload_n S.x S.b d_Txp_rowLength_7 rfl (lv_at hl 0 rfl) ?_
    refine lv_aload_n S.x S.b d_Txp_rowLength_8 rfl (lv_at hl 0 rfl) ?_
    refine px_get S k_Txp hT hw 0 0 6 (v := .int (f 6)) rfl rfl rfl (by decide) m6_219 d_Txp_rowLength_9 ?_
    refine lv_iload_n S.x S.b d_Txp_rowLength_12 rfl (lv_at hl 2 rfl) ?_
    refine lv_iadd S.x S.b d_Txp_rowLength_13 ?_
    have lr3 := Int32.le_toInt (f 6)
    have ur3 := Int32.toInt_lt (f 6)
    refine lv_topi (fun z4 ez4 => ?_)
    have tz4 : z4.toInt = ((f 6).toInt + p1.toInt + 2147483648) % 4294967296 - 2147483648 := by rw [ez4]; exact i_add (f 6) p1
    have lz4 := Int32.le_toInt z4
    have uz4 := Int32.toInt_lt z4
    try replace tz4 : z4.toInt = (f 6).toInt + p1.toInt := by omega
    refine lv_iconst (v := 1) S.x S.b d_Txp_rowLength_14 (by decide) ?_
    refine lv_iadd S.x S.b d_Txp_rowLength_15 ?_
    refine lv_topi (fun z5 ez5 => ?_)
    have tz5 : z5.toInt = (z4.toInt + (1 : Int) + 2147483648) % 4294967296 - 2147483648 := by rw [ez5]; exact i_add z4 1
    have lz5 := Int32.le_toInt z5
    have uz5 := Int32.toInt_lt z5
    try replace tz5 : z5.toInt = z4.toInt + (1 : Int) := by omega
    first | refine px_calli (pr := []) (px_runV (As := [.int z5]) (rest := []) S (c_Txp_peek l D cs h r g hp f a z5  (show TxOk (f 4) (f 5) (f 8) (f 9) (f 17) (f 21) (a 2) from ⟨lk, ⟨i2, i3⟩, ⟨i4, i5⟩, ⟨i6, i7⟩, i8, ⟨i9, i11⟩, i10, hrt⟩) _) hT (pr := []) (pcs := [wd_Txp cs h r (fun k => if k = 3 then (some hp) else none) f a g]) hw px_X.tt (px_recv hT hw 0 0 rfl rfl rfl) m8_146 m8_143 m8_145 ms_5_15 m1_35 q_Txp_peek ⟨Nat.le_of_ble_eq_true rfl, Nat.le_of_ble_eq_true rfl⟩ hl.1 rfl (Nat.le_of_ble_eq_true rfl) d_Txp_rowLength_16 ⟨Nat.le_of_ble_eq_true rfl, Nat.le_of_ble_eq_true rfl⟩) hw hA (fun v7 p6 H locs hp6 hw => ?_) | refine px_calli (pr := []) (px_runV (As := [.int z5]) (rest := []) S (c_Txp_peek l D cs h r g hp f a z5  (show TxOk (f 4) (f 5) (f 8) (f 9) (f 17) (f 21) (a 2) from ⟨lk, ⟨by first | exact i2 | omega, by first | exact i3 | omega⟩, ⟨by first | exact i4 | omega, by first | exact i5 | omega⟩, ⟨by first | exact i6 | omega, by first | exact i7 | omega⟩, by first | exact i8 | omega, ⟨by first | exact i9 | omega, by first | exact i11 | omega⟩, by first | exact i10 | omega, hrt⟩) _) hT (pr := []) (pcs := [wd_Txp cs h r (fun k => if k = 3 then (some hp) else none) f a g]) hw px_X.tt (px_recv hT hw 0 0 rfl rfl rfl) m8_146 m8_143 m8_145 ms_5_15 m1_35 q_Txp_peek ⟨Nat.le_of_ble_eq_true rfl, Nat.le_of_ble_eq_true rfl⟩ hl.1 rfl (Nat.le_of_ble_eq_true rfl) d_Txp_rowLength_16 ⟨Nat.le_of_ble_eq_true rfl, Nat.le_of_ble_eq_true rfl⟩) hw hA (fun v7 p6 H locs hp6 hw => ?_)
    subst hp6
    have lv7 := Int32.le_toInt v7
    have uv7 := Int32.toInt_lt v7
    refine lv_goto (tgt := 23) S.x S.b d_Txp_rowLength_19 (by decide) ?_
    exact px_iret (v := v7) S hr rfl hlk hAe hw (Nat.le_of_ble_eq_true rfl) (Nat.le_of_ble_eq_true rfl) (rfl) d_Txp_rowLength_23
abbrev b_Txp_lookUp : ByteArray := prog_11_method_17_code
def y_Txp_lookUp : MethodName := ⟨"HomeSystem$TextProcess", "lookUp", "(III)V"⟩
theorem d_Txp_lookUp_0 : decode b_Txp_lookUp 0 = .ok (.aload_n 0, 1) := by decide +kernel
theorem d_Txp_lookUp_1 : decode b_Txp_lookUp 1 = .ok (.iconst (-1), 1) := by decide +kernel
theorem d_Txp_lookUp_2 : decode b_Txp_lookUp 2 = .ok (.putfield 149, 3) := by decide +kernel
theorem d_Txp_lookUp_5 : decode b_Txp_lookUp 5 = .ok (.iload_n 1, 1) := by decide +kernel
theorem d_Txp_lookUp_6 : decode b_Txp_lookUp 6 = .ok (.bipush 6, 2) := by decide +kernel
theorem d_Txp_lookUp_8 : decode b_Txp_lookUp 8 = .ok (.iand, 1) := by decide +kernel
theorem d_Txp_lookUp_9 : decode b_Txp_lookUp 9 = .ok (.bipush 6, 2) := by decide +kernel
theorem d_Txp_lookUp_11 : decode b_Txp_lookUp 11 = .ok (.if_icmp .ne 25, 3) := by decide +kernel
theorem d_Txp_lookUp_14 : decode b_Txp_lookUp 14 = .ok (.aload_n 0, 1) := by decide +kernel
theorem d_Txp_lookUp_15 : decode b_Txp_lookUp 15 = .ok (.iload_n 2, 1) := by decide +kernel
theorem d_Txp_lookUp_16 : decode b_Txp_lookUp 16 = .ok (.iload_n 3, 1) := by decide +kernel
theorem d_Txp_lookUp_17 : decode b_Txp_lookUp 17 = .ok (.iconst 2, 1) := by decide +kernel
theorem d_Txp_lookUp_18 : decode b_Txp_lookUp 18 = .ok (.ishr, 1) := by decide +kernel
theorem d_Txp_lookUp_19 : decode b_Txp_lookUp 19 = .ok (.iadd, 1) := by decide +kernel
theorem d_Txp_lookUp_20 : decode b_Txp_lookUp 20 = .ok (.putfield 152, 3) := by decide +kernel
theorem d_Txp_lookUp_23 : decode b_Txp_lookUp 23 = .ok (.aload_n 0, 1) := by decide +kernel
theorem d_Txp_lookUp_24 : decode b_Txp_lookUp 24 = .ok (.bipush 8, 2) := by decide +kernel
theorem d_Txp_lookUp_26 : decode b_Txp_lookUp 26 = .ok (.iload_n 3, 1) := by decide +kernel
theorem d_Txp_lookUp_27 : decode b_Txp_lookUp 27 = .ok (.iconst 3, 1) := by decide +kernel
theorem d_Txp_lookUp_28 : decode b_Txp_lookUp 28 = .ok (.iand, 1) := by decide +kernel
theorem d_Txp_lookUp_29 : decode b_Txp_lookUp 29 = .ok (.imul, 1) := by decide +kernel
theorem d_Txp_lookUp_30 : decode b_Txp_lookUp 30 = .ok (.putfield 149, 3) := by decide +kernel
theorem d_Txp_lookUp_33 : decode b_Txp_lookUp 33 = .ok (.goto 10, 3) := by decide +kernel
theorem d_Txp_lookUp_36 : decode b_Txp_lookUp 36 = .ok (.aload_n 0, 1) := by decide +kernel
theorem d_Txp_lookUp_37 : decode b_Txp_lookUp 37 = .ok (.iload_n 2, 1) := by decide +kernel
theorem d_Txp_lookUp_38 : decode b_Txp_lookUp 38 = .ok (.iload_n 3, 1) := by decide +kernel
theorem d_Txp_lookUp_39 : decode b_Txp_lookUp 39 = .ok (.iadd, 1) := by decide +kernel
theorem d_Txp_lookUp_40 : decode b_Txp_lookUp 40 = .ok (.putfield 152, 3) := by decide +kernel
theorem d_Txp_lookUp_43 : decode b_Txp_lookUp 43 = .ok (.return_, 1) := by decide +kernel
theorem q_Txp_lookUp : px_y y_Txp_lookUp 3 := by unfold px_y; decide +kernel
set_option maxHeartbeats 4000000 in
set_option maxRecDepth 100000 in
theorem c_Txp_lookUp (l : Launch) (D : va_G) (cs : Nat → ClassId) (h : Nat) (r : Nat → Nat) (g : Nat → Nat → Option Nat) (hp : Nat) (f : Nat → Int32) (a : Nat → Nat → Int32) (p0 p1 p2 : Int32)  (hinv0 : TxOk (f 4) (f 5) (f 8) (f 9) (f 17) (f 21) (a 2)) : MetV l y_Txp_lookUp b_Txp_lookUp 4 D cs 0 0 (0) (0) [.ref h, .int p0, .int p1, .int p2] [wd_Txp cs h r (fun k => if k = 3 then (some hp) else none) f a g] (fun _ => True) (fun ps => ∃ (f' : Nat → Int32) (a' : Nat → Nat → Int32), (ps = [wd_Txp cs h r (fun k => if k = 3 then (some hp) else none) f' a' g]) ∧ (TxOk (f' 4) (f' 5) (f' 8) (f' 9) (f' 17) (f' 21) (a' 2)) ∧ ((f' 9).toInt = (f 9).toInt) ∧ ((f' 17).toInt = (f 17).toInt) ∧ ((f' 21).toInt = (f 21).toInt) ∧ ((f' 15).toInt = (f 15).toInt) ∧ ((f' 20).toInt = (f 20).toInt) ∧ ((f' 4).toInt = (f 4).toInt)) := by
  refine px_enter (by decide) (Nat.le_of_ble_eq_true rfl) ?_
  intro p e s m below meth c A ls hAe S hr hlk hnm hA hT hX hw hl
  have hl : lv_has ls 4 [(0, .ref h), (1, .int p0), (2, .int p1), (3, .int p2)] := hl
  have lp0 := Int32.le_toInt p0
  have up0 := Int32.toInt_lt p0
  have lp1 := Int32.le_toInt p1
  have up1 := Int32.toInt_lt p1
  have lp2 := Int32.le_toInt p2
  have up2 := Int32.toInt_lt p2
  have cstm1 : ((-1) : Int32).toInt = (-1) := rfl
  have cst2 : (2 : Int32).toInt = 2 := rfl
  have cst3 : (3 : Int32).toInt = 3 := rfl
  have cst6 : (6 : Int32).toInt = 6 := rfl
  have cst8 : (8 : Int32).toInt = 8 := rfl
  obtain ⟨lk, ⟨i2, i3⟩, ⟨i4, i5⟩, ⟨i6, i7⟩, i8, ⟨i9, i11⟩, i10, hrt⟩ := hinv0
  refine lv_aload_n S.x S.b d_Txp_lookUp_0 rfl (lv_at hl 0 rfl) ?_
  refine lv_iconst (v := (-1)) S.x S.b d_Txp_lookUp_1 (by decide) ?_
  refine px_put S k_Txp hT hw 0 0 12 rfl rfl (by decide) m6_225 rfl rfl rfl (Nat.le_of_ble_eq_true rfl) d_Txp_lookUp_2 (w' := wd_Txp cs h r (fun k => if k = 3 then (some hp) else none) (upd f 12 (-1)) a g) (ps' := [wd_Txp cs h r (fun k => if k = 3 then (some hp) else none) (upd f 12 (-1)) a g]) rfl rfl (fun H locs hw => ?_)
  refine lv_iload_n S.x S.b d_Txp_lookUp_5 rfl (lv_at hl 1 rfl) ?_
  refine lv_bipush (v := 6) S.x S.b d_Txp_lookUp_6 (by decide) ?_
  refine lv_iand S.x S.b d_Txp_lookUp_8 ?_
  refine lv_topi (fun z1 ez1 => ?_)
  have lz1 := Int32.le_toInt z1
  have uz1 := Int32.toInt_lt z1
  refine lv_bipush (v := 6) S.x S.b d_Txp_lookUp_9 (by decide) ?_
  refine lv_icmp_ne (tgt := 36) S.x S.b d_Txp_lookUp_11 (by decide) (fun c2 => ?_) (fun c2 => ?_)
  · have nc2 : ¬ z1.toInt = (6 : Int) := mt (i_eq (x := z1) (y := 6)).mpr c2
    refine lv_aload_n S.x S.b d_Txp_lookUp_36 rfl (lv_at hl 0 rfl) ?_
    refine lv_iload_n S.x S.b d_Txp_lookUp_37 rfl (lv_at hl 2 rfl) ?_
    refine lv_iload_n S.x S.b d_Txp_lookUp_38 rfl (lv_at hl 3 rfl) ?_
    refine lv_iadd S.x S.b d_Txp_lookUp_39 ?_
    refine lv_topi (fun z3 ez3 => ?_)
    have tz3 : z3.toInt = (p1.toInt + p2.toInt + 2147483648) % 4294967296 - 2147483648 := by rw [ez3]; exact i_add p1 p2
    have lz3 := Int32.le_toInt z3
    have uz3 := Int32.toInt_lt z3
    try replace tz3 : z3.toInt = p1.toInt + p2.toInt := by omega
    refine px_put S k_Txp hT hw 0 0 11 rfl rfl (by decide) m6_224 rfl rfl rfl (Nat.le_of_ble_eq_true rfl) d_Txp_lookUp_40 (w' := wd_Txp cs h r (fun k => if k = 3 then (some hp) else none) (upd (upd f 11 z3) 12 (-1)) a g) (ps' := [wd_Txp cs h r (fun k => if k = 3 then (some hp) else none) (upd (upd f 11 z3) 12 (-1)) a g]) rfl rfl (fun H locs hw => ?_)
    first | exact px_vret S hr hlk hAe hw (Nat.le_of_ble_eq_true rfl) (Nat.le_of_ble_eq_true rfl) (⟨(upd (upd f 11 z3) 12 (-1)), a, rfl, (show TxOk (f 4) (f 5) (f 8) (f 9) (f 17) (f 21) (a 2) from ⟨lk, ⟨i2, i3⟩, ⟨i4, i5⟩, ⟨i6, i7⟩, i8, ⟨i9, i11⟩, i10, hrt⟩), (show (f 9).toInt = (f 9).toInt from rfl), (show (f 17).toInt = (f 17).toInt from rfl), (show (f 21).toInt = (f 21).toInt from rfl), (show (f 15).toInt = (f 15).toInt from rfl), (show (f 20).toInt = (f 20).toInt from rfl), (show (f 4).toInt = (f 4).toInt from rfl)⟩) d_Txp_lookUp_43 | exact px_vret S hr hlk hAe hw (Nat.le_of_ble_eq_true rfl) (Nat.le_of_ble_eq_true rfl) (⟨(upd (upd f 11 z3) 12 (-1)), a, rfl, (show TxOk (f 4) (f 5) (f 8) (f 9) (f 17) (f 21) (a 2) from ⟨lk, ⟨by first | exact i2 | omega, by first | exact i3 | omega⟩, ⟨by first | exact i4 | omega, by first | exact i5 | omega⟩, ⟨by first | exact i6 | omega, by first | exact i7 | omega⟩, by first | exact i8 | omega, ⟨by first | exact i9 | omega, by first | exact i11 | omega⟩, by first | exact i10 | omega, hrt⟩), (show (f 9).toInt = (f 9).toInt from rfl), (show (f 17).toInt = (f 17).toInt from rfl), (show (f 21).toInt = (f 21).toInt from rfl), (show (f 15).toInt = (f 15).toInt from rfl), (show (f 20).toInt = (f 20).toInt from rfl), (show (f 4).toInt = (f 4).toInt from rfl)⟩) d_Txp_lookUp_43
  · have nc2 : z1.toInt = (6 : Int) := (i_eq (x := z1) (y := 6)).mp c2
    refine lv_aload_n S.x S.b d_Txp_lookUp_14 rfl (lv_at hl 0 rfl) ?_
    refine lv_iload_n S.x S.b d_Txp_lookUp_15 rfl (lv_at hl 2 rfl) ?_
    refine lv_iload_n S.x S.b d_Txp_lookUp_16 rfl (lv_at hl 3 rfl) ?_
    refine lv_iconst (v := 2) S.x S.b d_Txp_lookUp_17 (by decide) ?_
    refine lv_ishr S.x S.b d_Txp_lookUp_18 ?_
    refine lv_topi (fun z4 ez4 => ?_)
    have tz4 : z4.toInt = p2.toInt / 4 := by rw [ez4]; exact i_shr p2 2 (k := 2) (d := 4) (by decide) (by decide)
    have lz4 := Int32.le_toInt z4
    have uz4 := Int32.toInt_lt z4
    refine lv_iadd S.x S.b d_Txp_lookUp_19 ?_
    refine lv_topi (fun z5 ez5 => ?_)
    have tz5 : z5.toInt = (p1.toInt + z4.toInt + 2147483648) % 4294967296 - 2147483648 := by rw [ez5]; exact i_add p1 z4
    have lz5 := Int32.le_toInt z5
    have uz5 := Int32.toInt_lt z5
    try replace tz5 : z5.toInt = p1.toInt + z4.toInt := by omega
    refine px_put S k_Txp hT hw 0 0 11 rfl rfl (by decide) m6_224 rfl rfl rfl (Nat.le_of_ble_eq_true rfl) d_Txp_lookUp_20 (w' := wd_Txp cs h r (fun k => if k = 3 then (some hp) else none) (upd (upd f 11 z5) 12 (-1)) a g) (ps' := [wd_Txp cs h r (fun k => if k = 3 then (some hp) else none) (upd (upd f 11 z5) 12 (-1)) a g]) rfl rfl (fun H locs hw => ?_)
    refine lv_aload_n S.x S.b d_Txp_lookUp_23 rfl (lv_at hl 0 rfl) ?_
    refine lv_bipush (v := 8) S.x S.b d_Txp_lookUp_24 (by decide) ?_
    refine lv_iload_n S.x S.b d_Txp_lookUp_26 rfl (lv_at hl 3 rfl) ?_
    refine lv_iconst (v := 3) S.x S.b d_Txp_lookUp_27 (by decide) ?_
    refine lv_iand S.x S.b d_Txp_lookUp_28 ?_
    refine lv_topi (fun z6 ez6 => ?_)
    have lz6 := Int32.le_toInt z6
    have uz6 := Int32.toInt_lt z6
    have bz6 := i_andm p2 (m := 3) 2 (by decide) (by decide)
    rw [← ez6] at bz6
    have wz6 : 0 ≤ z6.toInt ∧ z6.toInt ≤ 3 := by simp only [Nat.reducePow, Int.reducePow] at bz6; omega
    refine lv_imul S.x S.b d_Txp_lookUp_29 ?_
    refine lv_topi (fun z7 ez7 => ?_)
    have lz7 := Int32.le_toInt z7
    have uz7 := Int32.toInt_lt z7
    have tz7 : -2147483648 ≤ 8 * z6.toInt → 8 * z6.toInt < 2147483648 → z7.toInt = 8 * z6.toInt := by rw [ez7]; exact i_mulc 8 z6 (by decide)
    try replace tz7 : z7.toInt = 8 * z6.toInt := by omega
    refine px_put S k_Txp hT hw 0 0 12 rfl rfl (by decide) m6_225 rfl rfl rfl (Nat.le_of_ble_eq_true rfl) d_Txp_lookUp_30 (w' := wd_Txp cs h r (fun k => if k = 3 then (some hp) else none) (upd (upd f 11 z5) 12 z7) a g) (ps' := [wd_Txp cs h r (fun k => if k = 3 then (some hp) else none) (upd (upd f 11 z5) 12 z7) a g]) rfl rfl (fun H locs hw => ?_)
    refine lv_goto (tgt := 43) S.x S.b d_Txp_lookUp_33 (by decide) ?_
    first | exact px_vret S hr hlk hAe hw (Nat.le_of_ble_eq_true rfl) (Nat.le_of_ble_eq_true rfl) (⟨(upd (upd f 11 z5) 12 z7), a, rfl, (show TxOk (f 4) (f 5) (f 8) (f 9) (f 17) (f 21) (a 2) from ⟨lk, ⟨i2, i3⟩, ⟨i4, i5⟩, ⟨i6, i7⟩, i8, ⟨i9, i11⟩, i10, hrt⟩), (show (f 9).toInt = (f 9).toInt from rfl), (show (f 17).toInt = (f 17).toInt from rfl), (show (f 21).toInt = (f 21).toInt from rfl), (show (f 15).toInt = (f 15).toInt from rfl), (show (f 20).toInt = (f 20).toInt from rfl), (show (f 4).toInt = (f 4).toInt from rfl)⟩) d_Txp_lookUp_43 | exact px_vret S hr hlk hAe hw (Nat.le_of_ble_eq_true rfl) (Nat.le_of_ble_eq_true rfl) (⟨(upd (upd f 11 z5) 12 z7), a, rfl, (show TxOk (f 4) (f 5) (f 8) (f 9) (f 17) (f 21) (a 2) from ⟨lk, ⟨by first | exact i2 | omega, by first | exact i3 | omega⟩, ⟨by first | exact i4 | omega, by first | exact i5 | omega⟩, ⟨by first | exact i6 | omega, by first | exact i7 | omega⟩, by first | exact i8 | omega, ⟨by first | exact i9 | omega, by first | exact i11 | omega⟩, by first | exact i10 | omega, hrt⟩), (show (f 9).toInt = (f 9).toInt from rfl), (show (f 17).toInt = (f 17).toInt from rfl), (show (f 21).toInt = (f 21).toInt from rfl), (show (f 15).toInt = (f 15).toInt from rfl), (show (f 20).toInt = (f 20).toInt from rfl), (show (f 4).toInt = (f 4).toInt from rfl)⟩) d_Txp_lookUp_43
abbrev b_Txp_look : ByteArray := prog_11_method_18_code
def y_Txp_look : MethodName := ⟨"HomeSystem$TextProcess", "look", "()I"⟩
theorem d_Txp_look_0 : decode b_Txp_look 0 = .ok (.aload_n 0, 1) := by decide +kernel
theorem d_Txp_look_1 : decode b_Txp_look 1 = .ok (.getfield 149, 3) := by decide +kernel
theorem d_Txp_look_4 : decode b_Txp_look 4 = .ok (.iconst (-1), 1) := by decide +kernel
theorem d_Txp_look_5 : decode b_Txp_look 5 = .ok (.if_icmp .ne 14, 3) := by decide +kernel
theorem d_Txp_look_8 : decode b_Txp_look 8 = .ok (.aload_n 0, 1) := by decide +kernel
theorem d_Txp_look_9 : decode b_Txp_look 9 = .ok (.aload_n 0, 1) := by decide +kernel
theorem d_Txp_look_10 : decode b_Txp_look 10 = .ok (.getfield 152, 3) := by decide +kernel
theorem d_Txp_look_13 : decode b_Txp_look 13 = .ok (.invokevirtual 94, 3) := by decide +kernel
theorem d_Txp_look_16 : decode b_Txp_look 16 = .ok (.goto 20, 3) := by decide +kernel
theorem d_Txp_look_19 : decode b_Txp_look 19 = .ok (.aload_n 0, 1) := by decide +kernel
theorem d_Txp_look_20 : decode b_Txp_look 20 = .ok (.aload_n 0, 1) := by decide +kernel
theorem d_Txp_look_21 : decode b_Txp_look 21 = .ok (.getfield 152, 3) := by decide +kernel
theorem d_Txp_look_24 : decode b_Txp_look 24 = .ok (.invokevirtual 94, 3) := by decide +kernel
theorem d_Txp_look_27 : decode b_Txp_look 27 = .ok (.aload_n 0, 1) := by decide +kernel
theorem d_Txp_look_28 : decode b_Txp_look 28 = .ok (.getfield 149, 3) := by decide +kernel
theorem d_Txp_look_31 : decode b_Txp_look 31 = .ok (.iushr, 1) := by decide +kernel
theorem d_Txp_look_32 : decode b_Txp_look 32 = .ok (.sipush 255, 3) := by decide +kernel
theorem d_Txp_look_35 : decode b_Txp_look 35 = .ok (.iand, 1) := by decide +kernel
theorem d_Txp_look_36 : decode b_Txp_look 36 = .ok (.ireturn, 1) := by decide +kernel
theorem q_Txp_look : px_y y_Txp_look 0 := by unfold px_y; decide +kernel
set_option maxHeartbeats 4000000 in
set_option maxRecDepth 100000 in
theorem c_Txp_look (l : Launch) (D : va_G) (cs : Nat → ClassId) (h : Nat) (r : Nat → Nat) (g : Nat → Nat → Option Nat) (hp : Nat) (f : Nat → Int32) (a : Nat → Nat → Int32)  (hinv0 : TxOk (f 4) (f 5) (f 8) (f 9) (f 17) (f 21) (a 2)) : MetI l y_Txp_look b_Txp_look 1 (.int) D cs 1 30 (0) (0) [.ref h] [wd_Txp cs h r (fun k => if k = 3 then (some hp) else none) f a g] (fun _ => True) (fun v ps => (ps = [wd_Txp cs h r (fun k => if k = 3 then (some hp) else none) f a g])) := by
  refine px_enter (by decide) (Nat.le_of_ble_eq_true rfl) ?_
  intro p e s m below meth c A ls hAe S hr hlk hnm hA hT hX hw hl
  have hl : lv_has ls 1 [(0, .ref h)] := hl
  have cstm1 : ((-1) : Int32).toInt = (-1) := rfl
  have cst255 : (255 : Int32).toInt = 255 := rfl
  obtain ⟨lk, ⟨i2, i3⟩, ⟨i4, i5⟩, ⟨i6, i7⟩, i8, ⟨i9, i11⟩, i10, hrt⟩ := hinv0
  refine lv_aload_n S.x S.b d_Txp_look_0 rfl (lv_at hl 0 rfl) ?_
  refine px_get S k_Txp hT hw 0 0 12 (v := .int (f 12)) rfl rfl rfl (by decide) m6_225 d_Txp_look_1 ?_
  refine lv_iconst (v := (-1)) S.x S.b d_Txp_look_4 (by decide) ?_
  refine lv_icmp_ne (tgt := 19) S.x S.b d_Txp_look_5 (by decide) (fun c1 => ?_) (fun c1 => ?_)
  · have nc1 : ¬ (f 12).toInt = (-1 : Int) := mt (i_eq (x := (f 12)) (y := (-1))).mpr c1
    refine lv_aload_n S.x S.b d_Txp_look_19 rfl (lv_at hl 0 rfl) ?_
    refine lv_aload_n S.x S.b d_Txp_look_20 rfl (lv_at hl 0 rfl) ?_
    refine px_get S k_Txp hT hw 0 0 11 (v := .int (f 11)) rfl rfl rfl (by decide) m6_224 d_Txp_look_21 ?_
    first | refine px_calli (pr := []) (px_runV (As := [.int (f 11)]) (rest := []) S (c_Txp_peek l D cs h r g hp f a (f 11)  (show TxOk (f 4) (f 5) (f 8) (f 9) (f 17) (f 21) (a 2) from ⟨lk, ⟨i2, i3⟩, ⟨i4, i5⟩, ⟨i6, i7⟩, i8, ⟨i9, i11⟩, i10, hrt⟩) _) hT (pr := []) (pcs := [wd_Txp cs h r (fun k => if k = 3 then (some hp) else none) f a g]) hw px_X.tt (px_recv hT hw 0 0 rfl rfl rfl) m8_146 m8_143 m8_145 ms_5_15 m1_35 q_Txp_peek ⟨Nat.le_of_ble_eq_true rfl, Nat.le_of_ble_eq_true rfl⟩ hl.1 rfl (Nat.le_of_ble_eq_true rfl) d_Txp_look_24 ⟨Nat.le_of_ble_eq_true rfl, Nat.le_of_ble_eq_true rfl⟩) hw hA (fun v3 p2 H locs hp2 hw => ?_) | refine px_calli (pr := []) (px_runV (As := [.int (f 11)]) (rest := []) S (c_Txp_peek l D cs h r g hp f a (f 11)  (show TxOk (f 4) (f 5) (f 8) (f 9) (f 17) (f 21) (a 2) from ⟨lk, ⟨by first | exact i2 | omega, by first | exact i3 | omega⟩, ⟨by first | exact i4 | omega, by first | exact i5 | omega⟩, ⟨by first | exact i6 | omega, by first | exact i7 | omega⟩, by first | exact i8 | omega, ⟨by first | exact i9 | omega, by first | exact i11 | omega⟩, by first | exact i10 | omega, hrt⟩) _) hT (pr := []) (pcs := [wd_Txp cs h r (fun k => if k = 3 then (some hp) else none) f a g]) hw px_X.tt (px_recv hT hw 0 0 rfl rfl rfl) m8_146 m8_143 m8_145 ms_5_15 m1_35 q_Txp_peek ⟨Nat.le_of_ble_eq_true rfl, Nat.le_of_ble_eq_true rfl⟩ hl.1 rfl (Nat.le_of_ble_eq_true rfl) d_Txp_look_24 ⟨Nat.le_of_ble_eq_true rfl, Nat.le_of_ble_eq_true rfl⟩) hw hA (fun v3 p2 H locs hp2 hw => ?_)
    subst hp2
    have lv3 := Int32.le_toInt v3
    have uv3 := Int32.toInt_lt v3
    refine lv_aload_n S.x S.b d_Txp_look_27 rfl (lv_at hl 0 rfl) ?_
    refine px_get S k_Txp hT hw 0 0 12 (v := .int (f 12)) rfl rfl rfl (by decide) m6_225 d_Txp_look_28 ?_
    refine lv_iushr S.x S.b d_Txp_look_31 rfl ?_
    have lr4 := Int32.le_toInt (f 12)
    have ur4 := Int32.toInt_lt (f 12)
    refine lv_topi (fun z5 ez5 => ?_)
    have lz5 := Int32.le_toInt z5
    have uz5 := Int32.toInt_lt z5
    refine lv_sipush (v := 255) S.x S.b d_Txp_look_32 (by decide) ?_
    refine lv_iand S.x S.b d_Txp_look_35 ?_
    refine lv_topi (fun z6 ez6 => ?_)
    have lz6 := Int32.le_toInt z6
    have uz6 := Int32.toInt_lt z6
    have bz6 := i_andm z5 (m := 255) 8 (by decide) (by decide)
    rw [← ez6] at bz6
    have wz6 : 0 ≤ z6.toInt ∧ z6.toInt ≤ 255 := by simp only [Nat.reducePow, Int.reducePow] at bz6; omega
    exact px_iret (v := z6) S hr rfl hlk hAe hw (Nat.le_of_ble_eq_true rfl) (Nat.le_of_ble_eq_true rfl) (rfl) d_Txp_look_36
  · have nc1 : (f 12).toInt = (-1 : Int) := (i_eq (x := (f 12)) (y := (-1))).mp c1
    refine lv_aload_n S.x S.b d_Txp_look_8 rfl (lv_at hl 0 rfl) ?_
    refine lv_aload_n S.x S.b d_Txp_look_9 rfl (lv_at hl 0 rfl) ?_
    refine px_get S k_Txp hT hw 0 0 11 (v := .int (f 11)) rfl rfl rfl (by decide) m6_224 d_Txp_look_10 ?_
    first | refine px_calli (pr := []) (px_runV (As := [.int (f 11)]) (rest := []) S (c_Txp_peek l D cs h r g hp f a (f 11)  (show TxOk (f 4) (f 5) (f 8) (f 9) (f 17) (f 21) (a 2) from ⟨lk, ⟨i2, i3⟩, ⟨i4, i5⟩, ⟨i6, i7⟩, i8, ⟨i9, i11⟩, i10, hrt⟩) _) hT (pr := []) (pcs := [wd_Txp cs h r (fun k => if k = 3 then (some hp) else none) f a g]) hw px_X.tt (px_recv hT hw 0 0 rfl rfl rfl) m8_146 m8_143 m8_145 ms_5_15 m1_35 q_Txp_peek ⟨Nat.le_of_ble_eq_true rfl, Nat.le_of_ble_eq_true rfl⟩ hl.1 rfl (Nat.le_of_ble_eq_true rfl) d_Txp_look_13 ⟨Nat.le_of_ble_eq_true rfl, Nat.le_of_ble_eq_true rfl⟩) hw hA (fun v8 p7 H locs hp7 hw => ?_) | refine px_calli (pr := []) (px_runV (As := [.int (f 11)]) (rest := []) S (c_Txp_peek l D cs h r g hp f a (f 11)  (show TxOk (f 4) (f 5) (f 8) (f 9) (f 17) (f 21) (a 2) from ⟨lk, ⟨by first | exact i2 | omega, by first | exact i3 | omega⟩, ⟨by first | exact i4 | omega, by first | exact i5 | omega⟩, ⟨by first | exact i6 | omega, by first | exact i7 | omega⟩, by first | exact i8 | omega, ⟨by first | exact i9 | omega, by first | exact i11 | omega⟩, by first | exact i10 | omega, hrt⟩) _) hT (pr := []) (pcs := [wd_Txp cs h r (fun k => if k = 3 then (some hp) else none) f a g]) hw px_X.tt (px_recv hT hw 0 0 rfl rfl rfl) m8_146 m8_143 m8_145 ms_5_15 m1_35 q_Txp_peek ⟨Nat.le_of_ble_eq_true rfl, Nat.le_of_ble_eq_true rfl⟩ hl.1 rfl (Nat.le_of_ble_eq_true rfl) d_Txp_look_13 ⟨Nat.le_of_ble_eq_true rfl, Nat.le_of_ble_eq_true rfl⟩) hw hA (fun v8 p7 H locs hp7 hw => ?_)
    subst hp7
    have lv8 := Int32.le_toInt v8
    have uv8 := Int32.toInt_lt v8
    refine lv_goto (tgt := 36) S.x S.b d_Txp_look_16 (by decide) ?_
    exact px_iret (v := v8) S hr rfl hlk hAe hw (Nat.le_of_ble_eq_true rfl) (Nat.le_of_ble_eq_true rfl) (rfl) d_Txp_look_36
abbrev b_Txp_keep : ByteArray := prog_11_method_19_code
def y_Txp_keep : MethodName := ⟨"HomeSystem$TextProcess", "keep", "(II)I"⟩
theorem d_Txp_keep_0 : decode b_Txp_keep 0 = .ok (.iload_n 1, 1) := by decide +kernel
theorem d_Txp_keep_1 : decode b_Txp_keep 1 = .ok (.iconst 2, 1) := by decide +kernel
theorem d_Txp_keep_2 : decode b_Txp_keep 2 = .ok (.iand, 1) := by decide +kernel
theorem d_Txp_keep_3 : decode b_Txp_keep 3 = .ok (.ifCond .eq 11, 3) := by decide +kernel
theorem d_Txp_keep_6 : decode b_Txp_keep 6 = .ok (.iload_n 2, 1) := by decide +kernel
theorem d_Txp_keep_7 : decode b_Txp_keep 7 = .ok (.sipush 255, 3) := by decide +kernel
theorem d_Txp_keep_10 : decode b_Txp_keep 10 = .ok (.iand, 1) := by decide +kernel
theorem d_Txp_keep_11 : decode b_Txp_keep 11 = .ok (.goto 4, 3) := by decide +kernel
theorem d_Txp_keep_14 : decode b_Txp_keep 14 = .ok (.iload_n 2, 1) := by decide +kernel
theorem d_Txp_keep_15 : decode b_Txp_keep 15 = .ok (.istore_n 3, 1) := by decide +kernel
theorem d_Txp_keep_16 : decode b_Txp_keep 16 = .ok (.aload_n 0, 1) := by decide +kernel
theorem d_Txp_keep_17 : decode b_Txp_keep 17 = .ok (.getfield 149, 3) := by decide +kernel
theorem d_Txp_keep_20 : decode b_Txp_keep 20 = .ok (.iconst (-1), 1) := by decide +kernel
theorem d_Txp_keep_21 : decode b_Txp_keep 21 = .ok (.if_icmp .ne 15, 3) := by decide +kernel
theorem d_Txp_keep_24 : decode b_Txp_keep 24 = .ok (.aload_n 0, 1) := by decide +kernel
theorem d_Txp_keep_25 : decode b_Txp_keep 25 = .ok (.aload_n 0, 1) := by decide +kernel
theorem d_Txp_keep_26 : decode b_Txp_keep 26 = .ok (.getfield 152, 3) := by decide +kernel
theorem d_Txp_keep_29 : decode b_Txp_keep 29 = .ok (.iload_n 3, 1) := by decide +kernel
theorem d_Txp_keep_30 : decode b_Txp_keep 30 = .ok (.invokevirtual 98, 3) := by decide +kernel
theorem d_Txp_keep_33 : decode b_Txp_keep 33 = .ok (.goto 37, 3) := by decide +kernel
theorem d_Txp_keep_36 : decode b_Txp_keep 36 = .ok (.aload_n 0, 1) := by decide +kernel
theorem d_Txp_keep_37 : decode b_Txp_keep 37 = .ok (.aload_n 0, 1) := by decide +kernel
theorem d_Txp_keep_38 : decode b_Txp_keep 38 = .ok (.getfield 152, 3) := by decide +kernel
theorem d_Txp_keep_41 : decode b_Txp_keep 41 = .ok (.aload_n 0, 1) := by decide +kernel
theorem d_Txp_keep_42 : decode b_Txp_keep 42 = .ok (.aload_n 0, 1) := by decide +kernel
theorem d_Txp_keep_43 : decode b_Txp_keep 43 = .ok (.getfield 152, 3) := by decide +kernel
theorem d_Txp_keep_46 : decode b_Txp_keep 46 = .ok (.invokevirtual 94, 3) := by decide +kernel
theorem d_Txp_keep_49 : decode b_Txp_keep 49 = .ok (.sipush 255, 3) := by decide +kernel
theorem d_Txp_keep_52 : decode b_Txp_keep 52 = .ok (.aload_n 0, 1) := by decide +kernel
theorem d_Txp_keep_53 : decode b_Txp_keep 53 = .ok (.getfield 149, 3) := by decide +kernel
theorem d_Txp_keep_56 : decode b_Txp_keep 56 = .ok (.ishl, 1) := by decide +kernel
theorem d_Txp_keep_57 : decode b_Txp_keep 57 = .ok (.iconst (-1), 1) := by decide +kernel
theorem d_Txp_keep_58 : decode b_Txp_keep 58 = .ok (.ixor, 1) := by decide +kernel
theorem d_Txp_keep_59 : decode b_Txp_keep 59 = .ok (.iand, 1) := by decide +kernel
theorem d_Txp_keep_60 : decode b_Txp_keep 60 = .ok (.iload_n 3, 1) := by decide +kernel
theorem d_Txp_keep_61 : decode b_Txp_keep 61 = .ok (.aload_n 0, 1) := by decide +kernel
theorem d_Txp_keep_62 : decode b_Txp_keep 62 = .ok (.getfield 149, 3) := by decide +kernel
theorem d_Txp_keep_65 : decode b_Txp_keep 65 = .ok (.ishl, 1) := by decide +kernel
theorem d_Txp_keep_66 : decode b_Txp_keep 66 = .ok (.ior, 1) := by decide +kernel
theorem d_Txp_keep_67 : decode b_Txp_keep 67 = .ok (.invokevirtual 98, 3) := by decide +kernel
theorem d_Txp_keep_70 : decode b_Txp_keep 70 = .ok (.iload_n 3, 1) := by decide +kernel
theorem d_Txp_keep_71 : decode b_Txp_keep 71 = .ok (.ireturn, 1) := by decide +kernel
theorem q_Txp_keep : px_y y_Txp_keep 2 := by unfold px_y; decide +kernel
set_option maxHeartbeats 4000000 in
set_option maxRecDepth 100000 in
theorem c_Txp_keep (l : Launch) (D : va_G) (cs : Nat → ClassId) (h : Nat) (r : Nat → Nat) (g : Nat → Nat → Option Nat) (hp : Nat) (f : Nat → Int32) (a : Nat → Nat → Int32) (p0 p1 : Int32)  (hinv0 : TxOk (f 4) (f 5) (f 8) (f 9) (f 17) (f 21) (a 2)) : MetI l y_Txp_keep b_Txp_keep 4 (.int) D cs 1 30 (0) (0) [.ref h, .int p0, .int p1] [wd_Txp cs h r (fun k => if k = 3 then (some hp) else none) f a g] (fun _ => True) (fun v ps => ∃ (f' : Nat → Int32) (a' : Nat → Nat → Int32), (ps = [wd_Txp cs h r (fun k => if k = 3 then (some hp) else none) f' a' g]) ∧ (TxOk (f' 4) (f' 5) (f' 8) (f' 9) (f' 17) (f' 21) (a' 2)) ∧ ((f' 9).toInt = (f 9).toInt) ∧ ((f' 17).toInt = (f 17).toInt) ∧ ((f' 21).toInt = (f 21).toInt) ∧ ((f' 15).toInt = (f 15).toInt) ∧ ((f' 20).toInt = (f 20).toInt) ∧ ((f' 4).toInt = (f 4).toInt)) := by
  refine px_enter (by decide) (Nat.le_of_ble_eq_true rfl) ?_
  intro p e s m below meth c A ls hAe S hr hlk hnm hA hT hX hw hl
  have hl : lv_has ls 4 [(0, .ref h), (1, .int p0), (2, .int p1)] := hl
  have lp0 := Int32.le_toInt p0
  have up0 := Int32.toInt_lt p0
  have lp1 := Int32.le_toInt p1
  have up1 := Int32.toInt_lt p1
  have cstm1 : ((-1) : Int32).toInt = (-1) := rfl
  have cst2 : (2 : Int32).toInt = 2 := rfl
  have cst255 : (255 : Int32).toInt = 255 := rfl
  obtain ⟨lk, ⟨i2, i3⟩, ⟨i4, i5⟩, ⟨i6, i7⟩, i8, ⟨i9, i11⟩, i10, hrt⟩ := hinv0
  refine lv_iload_n S.x S.b d_Txp_keep_0 rfl (lv_at hl 1 rfl) ?_
  refine lv_iconst (v := 2) S.x S.b d_Txp_keep_1 (by decide) ?_
  refine lv_iand S.x S.b d_Txp_keep_2 ?_
  refine lv_topi (fun z1 ez1 => ?_)
  have lz1 := Int32.le_toInt z1
  have uz1 := Int32.toInt_lt z1
  refine lv_if_eq (tgt := 14) S.x S.b d_Txp_keep_3 (by decide) (fun c2 => ?_) (fun c2 => ?_)
  · have nc2 : z1.toInt = (0 : Int) := (i_eq (x := z1) (y := 0)).mp c2
    refine lv_iload_n S.x S.b d_Txp_keep_14 rfl (lv_at hl 2 rfl) ?_
    refine lv_istore_n (lv' := [(3, .int p1), (0, .ref h), (1, .int p0), (2, .int p1)]) S.x S.b d_Txp_keep_15 rfl hl (by decide) rfl (fun ls hl => ?_)
    refine lv_aload_n S.x S.b d_Txp_keep_16 rfl (lv_at hl 1 rfl) ?_
    refine px_get S k_Txp hT hw 0 0 12 (v := .int (f 12)) rfl rfl rfl (by decide) m6_225 d_Txp_keep_17 ?_
    refine lv_iconst (v := (-1)) S.x S.b d_Txp_keep_20 (by decide) ?_
    refine lv_icmp_ne (tgt := 36) S.x S.b d_Txp_keep_21 (by decide) (fun c3 => ?_) (fun c3 => ?_)
    · have nc3 : ¬ (f 12).toInt = (-1 : Int) := mt (i_eq (x := (f 12)) (y := (-1))).mpr c3
      refine lv_aload_n S.x S.b d_Txp_keep_36 rfl (lv_at hl 1 rfl) ?_
      refine lv_aload_n S.x S.b d_Txp_keep_37 rfl (lv_at hl 1 rfl) ?_
      refine px_get S k_Txp hT hw 0 0 11 (v := .int (f 11)) rfl rfl rfl (by decide) m6_224 d_Txp_keep_38 ?_
      refine lv_aload_n S.x S.b d_Txp_keep_41 rfl (lv_at hl 1 rfl) ?_
      refine lv_aload_n S.x S.b d_Txp_keep_42 rfl (lv_at hl 1 rfl) ?_
      refine px_get S k_Txp hT hw 0 0 11 (v := .int (f 11)) rfl rfl rfl (by decide) m6_224 d_Txp_keep_43 ?_
      first | refine px_calli (pr := []) (px_runV (As := [.int (f 11)]) (rest := [.int (f 11), .ref h]) S (c_Txp_peek l D cs h r g hp f a (f 11)  (show TxOk (f 4) (f 5) (f 8) (f 9) (f 17) (f 21) (a 2) from ⟨lk, ⟨i2, i3⟩, ⟨i4, i5⟩, ⟨i6, i7⟩, i8, ⟨i9, i11⟩, i10, hrt⟩) _) hT (pr := []) (pcs := [wd_Txp cs h r (fun k => if k = 3 then (some hp) else none) f a g]) hw px_X.tt (px_recv hT hw 0 0 rfl rfl rfl) m8_146 m8_143 m8_145 ms_5_15 m1_35 q_Txp_peek ⟨Nat.le_of_ble_eq_true rfl, Nat.le_of_ble_eq_true rfl⟩ hl.1 rfl (Nat.le_of_ble_eq_true rfl) d_Txp_keep_46 ⟨Nat.le_of_ble_eq_true rfl, Nat.le_of_ble_eq_true rfl⟩) hw hA (fun v5 p4 H locs hp4 hw => ?_) | refine px_calli (pr := []) (px_runV (As := [.int (f 11)]) (rest := [.int (f 11), .ref h]) S (c_Txp_peek l D cs h r g hp f a (f 11)  (show TxOk (f 4) (f 5) (f 8) (f 9) (f 17) (f 21) (a 2) from ⟨lk, ⟨by first | exact i2 | omega, by first | exact i3 | omega⟩, ⟨by first | exact i4 | omega, by first | exact i5 | omega⟩, ⟨by first | exact i6 | omega, by first | exact i7 | omega⟩, by first | exact i8 | omega, ⟨by first | exact i9 | omega, by first | exact i11 | omega⟩, by first | exact i10 | omega, hrt⟩) _) hT (pr := []) (pcs := [wd_Txp cs h r (fun k => if k = 3 then (some hp) else none) f a g]) hw px_X.tt (px_recv hT hw 0 0 rfl rfl rfl) m8_146 m8_143 m8_145 ms_5_15 m1_35 q_Txp_peek ⟨Nat.le_of_ble_eq_true rfl, Nat.le_of_ble_eq_true rfl⟩ hl.1 rfl (Nat.le_of_ble_eq_true rfl) d_Txp_keep_46 ⟨Nat.le_of_ble_eq_true rfl, Nat.le_of_ble_eq_true rfl⟩) hw hA (fun v5 p4 H locs hp4 hw => ?_)
      subst hp4
      have lv5 := Int32.le_toInt v5
      have uv5 := Int32.toInt_lt v5
      refine lv_sipush (v := 255) S.x S.b d_Txp_keep_49 (by decide) ?_
      refine lv_aload_n S.x S.b d_Txp_keep_52 rfl (lv_at hl 1 rfl) ?_
      refine px_get S k_Txp hT hw 0 0 12 (v := .int (f 12)) rfl rfl rfl (by decide) m6_225 d_Txp_keep_53 ?_
      refine lv_ishl S.x S.b d_Txp_keep_56 ?_
      have lr6 := Int32.le_toInt (f 12)
      have ur6 := Int32.toInt_lt (f 12)
      refine lv_topi (fun z7 ez7 => ?_)
      have lz7 := Int32.le_toInt z7
      have uz7 := Int32.toInt_lt z7
      refine lv_iconst (v := (-1)) S.x S.b d_Txp_keep_57 (by decide) ?_
      refine lv_ixor S.x S.b d_Txp_keep_58 ?_
      refine lv_topi (fun z8 ez8 => ?_)
      have lz8 := Int32.le_toInt z8
      have uz8 := Int32.toInt_lt z8
      refine lv_iand S.x S.b d_Txp_keep_59 ?_
      refine lv_topi (fun z9 ez9 => ?_)
      have lz9 := Int32.le_toInt z9
      have uz9 := Int32.toInt_lt z9
      refine lv_iload_n S.x S.b d_Txp_keep_60 rfl (lv_at hl 0 rfl) ?_
      refine lv_aload_n S.x S.b d_Txp_keep_61 rfl (lv_at hl 1 rfl) ?_
      refine px_get S k_Txp hT hw 0 0 12 (v := .int (f 12)) rfl rfl rfl (by decide) m6_225 d_Txp_keep_62 ?_
      refine lv_ishl S.x S.b d_Txp_keep_65 ?_
      have lr10 := Int32.le_toInt (f 12)
      have ur10 := Int32.toInt_lt (f 12)
      refine lv_topi (fun z11 ez11 => ?_)
      have lz11 := Int32.le_toInt z11
      have uz11 := Int32.toInt_lt z11
      refine lv_ior S.x S.b d_Txp_keep_66 ?_
      refine lv_topi (fun z12 ez12 => ?_)
      have lz12 := Int32.le_toInt z12
      have uz12 := Int32.toInt_lt z12
      first | refine px_callv (pr := []) (px_runV (As := [.int (f 11), .int z12]) (rest := []) S (c_Txp_poke l D cs h r g hp f a (f 11) z12  (show TxOk (f 4) (f 5) (f 8) (f 9) (f 17) (f 21) (a 2) from ⟨lk, ⟨i2, i3⟩, ⟨i4, i5⟩, ⟨i6, i7⟩, i8, ⟨i9, i11⟩, i10, hrt⟩) _) hT (pr := []) (pcs := [wd_Txp cs h r (fun k => if k = 3 then (some hp) else none) f a g]) hw px_X.tt (px_recv hT hw 0 0 rfl rfl rfl) m8_129 m8_126 m8_128 ms_5_13 m1_35 q_Txp_poke ⟨Nat.le_of_ble_eq_true rfl, Nat.le_of_ble_eq_true rfl⟩ hl.1 rfl (Nat.le_of_ble_eq_true rfl) d_Txp_keep_67 ⟨Nat.le_of_ble_eq_true rfl, Nat.le_of_ble_eq_true rfl⟩) hw hA (fun p15 H locs hp15 hw => ?_) | refine px_callv (pr := []) (px_runV (As := [.int (f 11), .int z12]) (rest := []) S (c_Txp_poke l D cs h r g hp f a (f 11) z12  (show TxOk (f 4) (f 5) (f 8) (f 9) (f 17) (f 21) (a 2) from ⟨lk, ⟨by first | exact i2 | omega, by first | exact i3 | omega⟩, ⟨by first | exact i4 | omega, by first | exact i5 | omega⟩, ⟨by first | exact i6 | omega, by first | exact i7 | omega⟩, by first | exact i8 | omega, ⟨by first | exact i9 | omega, by first | exact i11 | omega⟩, by first | exact i10 | omega, hrt⟩) _) hT (pr := []) (pcs := [wd_Txp cs h r (fun k => if k = 3 then (some hp) else none) f a g]) hw px_X.tt (px_recv hT hw 0 0 rfl rfl rfl) m8_129 m8_126 m8_128 ms_5_13 m1_35 q_Txp_poke ⟨Nat.le_of_ble_eq_true rfl, Nat.le_of_ble_eq_true rfl⟩ hl.1 rfl (Nat.le_of_ble_eq_true rfl) d_Txp_keep_67 ⟨Nat.le_of_ble_eq_true rfl, Nat.le_of_ble_eq_true rfl⟩) hw hA (fun p15 H locs hp15 hw => ?_)
      obtain ⟨f13, a14, rfl, h23, e17, e18, e19, e20, e21, e22⟩ := hp15
      obtain ⟨lk, ⟨i2, i3⟩, ⟨i4, i5⟩, ⟨i6, i7⟩, i8, ⟨i9, i11⟩, i10, hrt⟩ := h23
      have e17 : (f13 9).toInt = (f 9).toInt := e17
      have e18 : (f13 17).toInt = (f 17).toInt := e18
      have e19 : (f13 21).toInt = (f 21).toInt := e19
      have e20 : (f13 15).toInt = (f 15).toInt := e20
      have e21 : (f13 20).toInt = (f 20).toInt := e21
      have e22 : (f13 4).toInt = (f 4).toInt := e22
      refine lv_iload_n S.x S.b d_Txp_keep_70 rfl (lv_at hl 0 rfl) ?_
      first | exact px_iret (v := p1) S hr rfl hlk hAe hw (Nat.le_of_ble_eq_true rfl) (Nat.le_of_ble_eq_true rfl) (⟨f13, a14, rfl, (show TxOk (f13 4) (f13 5) (f13 8) (f13 9) (f13 17) (f13 21) (a14 2) from ⟨lk, ⟨i2, i3⟩, ⟨i4, i5⟩, ⟨i6, i7⟩, i8, ⟨i9, i11⟩, i10, hrt⟩), (show (f13 9).toInt = (f 9).toInt from e17), (show (f13 17).toInt = (f 17).toInt from e18), (show (f13 21).toInt = (f 21).toInt from e19), (show (f13 15).toInt = (f 15).toInt from e20), (show (f13 20).toInt = (f 20).toInt from e21), (show (f13 4).toInt = (f 4).toInt from e22)⟩) d_Txp_keep_71 | exact px_iret (v := p1) S hr rfl hlk hAe hw (Nat.le_of_ble_eq_true rfl) (Nat.le_of_ble_eq_true rfl) (⟨f13, a14, rfl, (show TxOk (f13 4) (f13 5) (f13 8) (f13 9) (f13 17) (f13 21) (a14 2) from ⟨lk, ⟨by first | exact i2 | omega, by first | exact i3 | omega⟩, ⟨by first | exact i4 | omega, by first | exact i5 | omega⟩, ⟨by first | exact i6 | omega, by first | exact i7 | omega⟩, by first | exact i8 | omega, ⟨by first | exact i9 | omega, by first | exact i11 | omega⟩, by first | exact i10 | omega, hrt⟩), (show (f13 9).toInt = (f 9).toInt from by first | exact e17 | omega), (show (f13 17).toInt = (f 17).toInt from by first | exact e18 | omega), (show (f13 21).toInt = (f 21).toInt from by first | exact e19 | omega), (show (f13 15).toInt = (f 15).toInt from by first | exact e20 | omega), (show (f13 20).toInt = (f 20).toInt from by first | exact e21 | omega), (show (f13 4).toInt = (f 4).toInt from by first | exact e22 | omega)⟩) d_Txp_keep_71
    · have nc3 : (f 12).toInt = (-1 : Int) := (i_eq (x := (f 12)) (y := (-1))).mp c3
      refine lv_aload_n S.x S.b d_Txp_keep_24 rfl (lv_at hl 1 rfl) ?_
      refine lv_aload_n S.x S.b d_Txp_keep_25 rfl (lv_at hl 1 rfl) ?_
      refine px_get S k_Txp hT hw 0 0 11 (v := .int (f 11)) rfl rfl rfl (by decide) m6_224 d_Txp_keep_26 ?_
      refine lv_iload_n S.x S.b d_Txp_keep_29 rfl (lv_at hl 0 rfl) ?_
      first | refine px_callv (pr := []) (px_runV (As := [.int (f 11), .int p1]) (rest := []) S (c_Txp_poke l D cs h r g hp f a (f 11) p1  (show TxOk (f 4) (f 5) (f 8) (f 9) (f 17) (f 21) (a 2) from ⟨lk, ⟨i2, i3⟩, ⟨i4, i5⟩, ⟨i6, i7⟩, i8, ⟨i9, i11⟩, i10, hrt⟩) _) hT (pr := []) (pcs := [wd_Txp cs h r (fun k => if k = 3 then (some hp) else none) f a g]) hw px_X.tt (px_recv hT hw 0 0 rfl rfl rfl) m8_129 m8_126 m8_128 ms_5_13 m1_35 q_Txp_poke ⟨Nat.le_of_ble_eq_true rfl, Nat.le_of_ble_eq_true rfl⟩ hl.1 rfl (Nat.le_of_ble_eq_true rfl) d_Txp_keep_30 ⟨Nat.le_of_ble_eq_true rfl, Nat.le_of_ble_eq_true rfl⟩) hw hA (fun p26 H locs hp26 hw => ?_) | refine px_callv (pr := []) (px_runV (As := [.int (f 11), .int p1]) (rest := []) S (c_Txp_poke l D cs h r g hp f a (f 11) p1  (show TxOk (f 4) (f 5) (f 8) (f 9) (f 17) (f 21) (a 2) from ⟨lk, ⟨by first | exact i2 | omega, by first | exact i3 | omega⟩, ⟨by first | exact i4 | omega, by first | exact i5 | omega⟩, ⟨by first | exact i6 | omega, by first | exact i7 | omega⟩, by first | exact i8 | omega, ⟨by first | exact i9 | omega, by first | exact i11 | omega⟩, by first | exact i10 | omega, hrt⟩) _) hT (pr := []) (pcs := [wd_Txp cs h r (fun k => if k = 3 then (some hp) else none) f a g]) hw px_X.tt (px_recv hT hw 0 0 rfl rfl rfl) m8_129 m8_126 m8_128 ms_5_13 m1_35 q_Txp_poke ⟨Nat.le_of_ble_eq_true rfl, Nat.le_of_ble_eq_true rfl⟩ hl.1 rfl (Nat.le_of_ble_eq_true rfl) d_Txp_keep_30 ⟨Nat.le_of_ble_eq_true rfl, Nat.le_of_ble_eq_true rfl⟩) hw hA (fun p26 H locs hp26 hw => ?_)
      obtain ⟨f24, a25, rfl, h34, e28, e29, e30, e31, e32, e33⟩ := hp26
      obtain ⟨lk, ⟨i2, i3⟩, ⟨i4, i5⟩, ⟨i6, i7⟩, i8, ⟨i9, i11⟩, i10, hrt⟩ := h34
      have e28 : (f24 9).toInt = (f 9).toInt := e28
      have e29 : (f24 17).toInt = (f 17).toInt := e29
      have e30 : (f24 21).toInt = (f 21).toInt := e30
      have e31 : (f24 15).toInt = (f 15).toInt := e31
      have e32 : (f24 20).toInt = (f 20).toInt := e32
      have e33 : (f24 4).toInt = (f 4).toInt := e33
      refine lv_goto (tgt := 70) S.x S.b d_Txp_keep_33 (by decide) ?_
      refine lv_iload_n S.x S.b d_Txp_keep_70 rfl (lv_at hl 0 rfl) ?_
      first | exact px_iret (v := p1) S hr rfl hlk hAe hw (Nat.le_of_ble_eq_true rfl) (Nat.le_of_ble_eq_true rfl) (⟨f24, a25, rfl, (show TxOk (f24 4) (f24 5) (f24 8) (f24 9) (f24 17) (f24 21) (a25 2) from ⟨lk, ⟨i2, i3⟩, ⟨i4, i5⟩, ⟨i6, i7⟩, i8, ⟨i9, i11⟩, i10, hrt⟩), (show (f24 9).toInt = (f 9).toInt from e28), (show (f24 17).toInt = (f 17).toInt from e29), (show (f24 21).toInt = (f 21).toInt from e30), (show (f24 15).toInt = (f 15).toInt from e31), (show (f24 20).toInt = (f 20).toInt from e32), (show (f24 4).toInt = (f 4).toInt from e33)⟩) d_Txp_keep_71 | exact px_iret (v := p1) S hr rfl hlk hAe hw (Nat.le_of_ble_eq_true rfl) (Nat.le_of_ble_eq_true rfl) (⟨f24, a25, rfl, (show TxOk (f24 4) (f24 5) (f24 8) (f24 9) (f24 17) (f24 21) (a25 2) from ⟨lk, ⟨by first | exact i2 | omega, by first | exact i3 | omega⟩, ⟨by first | exact i4 | omega, by first | exact i5 | omega⟩, ⟨by first | exact i6 | omega, by first | exact i7 | omega⟩, by first | exact i8 | omega, ⟨by first | exact i9 | omega, by first | exact i11 | omega⟩, by first | exact i10 | omega, hrt⟩), (show (f24 9).toInt = (f 9).toInt from by first | exact e28 | omega), (show (f24 17).toInt = (f 17).toInt from by first | exact e29 | omega), (show (f24 21).toInt = (f 21).toInt from by first | exact e30 | omega), (show (f24 15).toInt = (f 15).toInt from by first | exact e31 | omega), (show (f24 20).toInt = (f 20).toInt from by first | exact e32 | omega), (show (f24 4).toInt = (f 4).toInt from by first | exact e33 | omega)⟩) d_Txp_keep_71
  · have nc2 : ¬ z1.toInt = (0 : Int) := mt (i_eq (x := z1) (y := 0)).mpr c2
    refine lv_iload_n S.x S.b d_Txp_keep_6 rfl (lv_at hl 2 rfl) ?_
    refine lv_sipush (v := 255) S.x S.b d_Txp_keep_7 (by decide) ?_
    refine lv_iand S.x S.b d_Txp_keep_10 ?_
    refine lv_topi (fun z35 ez35 => ?_)
    have lz35 := Int32.le_toInt z35
    have uz35 := Int32.toInt_lt z35
    have bz35 := i_andm p1 (m := 255) 8 (by decide) (by decide)
    rw [← ez35] at bz35
    have wz35 : 0 ≤ z35.toInt ∧ z35.toInt ≤ 255 := by simp only [Nat.reducePow, Int.reducePow] at bz35; omega
    refine lv_goto (tgt := 15) S.x S.b d_Txp_keep_11 (by decide) ?_
    refine lv_istore_n (lv' := [(3, .int z35), (0, .ref h), (1, .int p0), (2, .int p1)]) S.x S.b d_Txp_keep_15 rfl hl (by decide) rfl (fun ls hl => ?_)
    refine lv_aload_n S.x S.b d_Txp_keep_16 rfl (lv_at hl 1 rfl) ?_
    refine px_get S k_Txp hT hw 0 0 12 (v := .int (f 12)) rfl rfl rfl (by decide) m6_225 d_Txp_keep_17 ?_
    refine lv_iconst (v := (-1)) S.x S.b d_Txp_keep_20 (by decide) ?_
    refine lv_icmp_ne (tgt := 36) S.x S.b d_Txp_keep_21 (by decide) (fun c36 => ?_) (fun c36 => ?_)
    · have nc36 : ¬ (f 12).toInt = (-1 : Int) := mt (i_eq (x := (f 12)) (y := (-1))).mpr c36
      refine lv_aload_n S.x S.b d_Txp_keep_36 rfl (lv_at hl 1 rfl) ?_
      refine lv_aload_n S.x S.b d_Txp_keep_37 rfl (lv_at hl 1 rfl) ?_
      refine px_get S k_Txp hT hw 0 0 11 (v := .int (f 11)) rfl rfl rfl (by decide) m6_224 d_Txp_keep_38 ?_
      refine lv_aload_n S.x S.b d_Txp_keep_41 rfl (lv_at hl 1 rfl) ?_
      refine lv_aload_n S.x S.b d_Txp_keep_42 rfl (lv_at hl 1 rfl) ?_
      refine px_get S k_Txp hT hw 0 0 11 (v := .int (f 11)) rfl rfl rfl (by decide) m6_224 d_Txp_keep_43 ?_
      first | refine px_calli (pr := []) (px_runV (As := [.int (f 11)]) (rest := [.int (f 11), .ref h]) S (c_Txp_peek l D cs h r g hp f a (f 11)  (show TxOk (f 4) (f 5) (f 8) (f 9) (f 17) (f 21) (a 2) from ⟨lk, ⟨i2, i3⟩, ⟨i4, i5⟩, ⟨i6, i7⟩, i8, ⟨i9, i11⟩, i10, hrt⟩) _) hT (pr := []) (pcs := [wd_Txp cs h r (fun k => if k = 3 then (some hp) else none) f a g]) hw px_X.tt (px_recv hT hw 0 0 rfl rfl rfl) m8_146 m8_143 m8_145 ms_5_15 m1_35 q_Txp_peek ⟨Nat.le_of_ble_eq_true rfl, Nat.le_of_ble_eq_true rfl⟩ hl.1 rfl (Nat.le_of_ble_eq_true rfl) d_Txp_keep_46 ⟨Nat.le_of_ble_eq_true rfl, Nat.le_of_ble_eq_true rfl⟩) hw hA (fun v38 p37 H locs hp37 hw => ?_) | refine px_calli (pr := []) (px_runV (As := [.int (f 11)]) (rest := [.int (f 11), .ref h]) S (c_Txp_peek l D cs h r g hp f a (f 11)  (show TxOk (f 4) (f 5) (f 8) (f 9) (f 17) (f 21) (a 2) from ⟨lk, ⟨by first | exact i2 | omega, by first | exact i3 | omega⟩, ⟨by first | exact i4 | omega, by first | exact i5 | omega⟩, ⟨by first | exact i6 | omega, by first | exact i7 | omega⟩, by first | exact i8 | omega, ⟨by first | exact i9 | omega, by first | exact i11 | omega⟩, by first | exact i10 | omega, hrt⟩) _) hT (pr := []) (pcs := [wd_Txp cs h r (fun k => if k = 3 then (some hp) else none) f a g]) hw px_X.tt (px_recv hT hw 0 0 rfl rfl rfl) m8_146 m8_143 m8_145 ms_5_15 m1_35 q_Txp_peek ⟨Nat.le_of_ble_eq_true rfl, Nat.le_of_ble_eq_true rfl⟩ hl.1 rfl (Nat.le_of_ble_eq_true rfl) d_Txp_keep_46 ⟨Nat.le_of_ble_eq_true rfl, Nat.le_of_ble_eq_true rfl⟩) hw hA (fun v38 p37 H locs hp37 hw => ?_)
      subst hp37
      have lv38 := Int32.le_toInt v38
      have uv38 := Int32.toInt_lt v38
      refine lv_sipush (v := 255) S.x S.b d_Txp_keep_49 (by decide) ?_
      refine lv_aload_n S.x S.b d_Txp_keep_52 rfl (lv_at hl 1 rfl) ?_
      refine px_get S k_Txp hT hw 0 0 12 (v := .int (f 12)) rfl rfl rfl (by decide) m6_225 d_Txp_keep_53 ?_
      refine lv_ishl S.x S.b d_Txp_keep_56 ?_
      have lr39 := Int32.le_toInt (f 12)
      have ur39 := Int32.toInt_lt (f 12)
      refine lv_topi (fun z40 ez40 => ?_)
      have lz40 := Int32.le_toInt z40
      have uz40 := Int32.toInt_lt z40
      refine lv_iconst (v := (-1)) S.x S.b d_Txp_keep_57 (by decide) ?_
      refine lv_ixor S.x S.b d_Txp_keep_58 ?_
      refine lv_topi (fun z41 ez41 => ?_)
      have lz41 := Int32.le_toInt z41
      have uz41 := Int32.toInt_lt z41
      refine lv_iand S.x S.b d_Txp_keep_59 ?_
      refine lv_topi (fun z42 ez42 => ?_)
      have lz42 := Int32.le_toInt z42
      have uz42 := Int32.toInt_lt z42
      refine lv_iload_n S.x S.b d_Txp_keep_60 rfl (lv_at hl 0 rfl) ?_
      refine lv_aload_n S.x S.b d_Txp_keep_61 rfl (lv_at hl 1 rfl) ?_
      refine px_get S k_Txp hT hw 0 0 12 (v := .int (f 12)) rfl rfl rfl (by decide) m6_225 d_Txp_keep_62 ?_
      refine lv_ishl S.x S.b d_Txp_keep_65 ?_
      have lr43 := Int32.le_toInt (f 12)
      have ur43 := Int32.toInt_lt (f 12)
      refine lv_topi (fun z44 ez44 => ?_)
      have lz44 := Int32.le_toInt z44
      have uz44 := Int32.toInt_lt z44
      refine lv_ior S.x S.b d_Txp_keep_66 ?_
      refine lv_topi (fun z45 ez45 => ?_)
      have lz45 := Int32.le_toInt z45
      have uz45 := Int32.toInt_lt z45
      first | refine px_callv (pr := []) (px_runV (As := [.int (f 11), .int z45]) (rest := []) S (c_Txp_poke l D cs h r g hp f a (f 11) z45  (show TxOk (f 4) (f 5) (f 8) (f 9) (f 17) (f 21) (a 2) from ⟨lk, ⟨i2, i3⟩, ⟨i4, i5⟩, ⟨i6, i7⟩, i8, ⟨i9, i11⟩, i10, hrt⟩) _) hT (pr := []) (pcs := [wd_Txp cs h r (fun k => if k = 3 then (some hp) else none) f a g]) hw px_X.tt (px_recv hT hw 0 0 rfl rfl rfl) m8_129 m8_126 m8_128 ms_5_13 m1_35 q_Txp_poke ⟨Nat.le_of_ble_eq_true rfl, Nat.le_of_ble_eq_true rfl⟩ hl.1 rfl (Nat.le_of_ble_eq_true rfl) d_Txp_keep_67 ⟨Nat.le_of_ble_eq_true rfl, Nat.le_of_ble_eq_true rfl⟩) hw hA (fun p48 H locs hp48 hw => ?_) | refine px_callv (pr := []) (px_runV (As := [.int (f 11), .int z45]) (rest := []) S (c_Txp_poke l D cs h r g hp f a (f 11) z45  (show TxOk (f 4) (f 5) (f 8) (f 9) (f 17) (f 21) (a 2) from ⟨lk, ⟨by first | exact i2 | omega, by first | exact i3 | omega⟩, ⟨by first | exact i4 | omega, by first | exact i5 | omega⟩, ⟨by first | exact i6 | omega, by first | exact i7 | omega⟩, by first | exact i8 | omega, ⟨by first | exact i9 | omega, by first | exact i11 | omega⟩, by first | exact i10 | omega, hrt⟩) _) hT (pr := []) (pcs := [wd_Txp cs h r (fun k => if k = 3 then (some hp) else none) f a g]) hw px_X.tt (px_recv hT hw 0 0 rfl rfl rfl) m8_129 m8_126 m8_128 ms_5_13 m1_35 q_Txp_poke ⟨Nat.le_of_ble_eq_true rfl, Nat.le_of_ble_eq_true rfl⟩ hl.1 rfl (Nat.le_of_ble_eq_true rfl) d_Txp_keep_67 ⟨Nat.le_of_ble_eq_true rfl, Nat.le_of_ble_eq_true rfl⟩) hw hA (fun p48 H locs hp48 hw => ?_)
      obtain ⟨f46, a47, rfl, h56, e50, e51, e52, e53, e54, e55⟩ := hp48
      obtain ⟨lk, ⟨i2, i3⟩, ⟨i4, i5⟩, ⟨i6, i7⟩, i8, ⟨i9, i11⟩, i10, hrt⟩ := h56
      have e50 : (f46 9).toInt = (f 9).toInt := e50
      have e51 : (f46 17).toInt = (f 17).toInt := e51
      have e52 : (f46 21).toInt = (f 21).toInt := e52
      have e53 : (f46 15).toInt = (f 15).toInt := e53
      have e54 : (f46 20).toInt = (f 20).toInt := e54
      have e55 : (f46 4).toInt = (f 4).toInt := e55
      refine lv_iload_n S.x S.b d_Txp_keep_70 rfl (lv_at hl 0 rfl) ?_
      first | exact px_iret (v := z35) S hr rfl hlk hAe hw (Nat.le_of_ble_eq_true rfl) (Nat.le_of_ble_eq_true rfl) (⟨f46, a47, rfl, (show TxOk (f46 4) (f46 5) (f46 8) (f46 9) (f46 17) (f46 21) (a47 2) from ⟨lk, ⟨i2, i3⟩, ⟨i4, i5⟩, ⟨i6, i7⟩, i8, ⟨i9, i11⟩, i10, hrt⟩), (show (f46 9).toInt = (f 9).toInt from e50), (show (f46 17).toInt = (f 17).toInt from e51), (show (f46 21).toInt = (f 21).toInt from e52), (show (f46 15).toInt = (f 15).toInt from e53), (show (f46 20).toInt = (f 20).toInt from e54), (show (f46 4).toInt = (f 4).toInt from e55)⟩) d_Txp_keep_71 | exact px_iret (v := z35) S hr rfl hlk hAe hw (Nat.le_of_ble_eq_true rfl) (Nat.le_of_ble_eq_true rfl) (⟨f46, a47, rfl, (show TxOk (f46 4) (f46 5) (f46 8) (f46 9) (f46 17) (f46 21) (a47 2) from ⟨lk, ⟨by first | exact i2 | omega, by first | exact i3 | omega⟩, ⟨by first | exact i4 | omega, by first | exact i5 | omega⟩, ⟨by first | exact i6 | omega, by first | exact i7 | omega⟩, by first | exact i8 | omega, ⟨by first | exact i9 | omega, by first | exact i11 | omega⟩, by first | exact i10 | omega, hrt⟩), (show (f46 9).toInt = (f 9).toInt from by first | exact e50 | omega), (show (f46 17).toInt = (f 17).toInt from by first | exact e51 | omega), (show (f46 21).toInt = (f 21).toInt from by first | exact e52 | omega), (show (f46 15).toInt = (f 15).toInt from by first | exact e53 | omega), (show (f46 20).toInt = (f 20).toInt from by first | exact e54 | omega), (show (f46 4).toInt = (f 4).toInt from by first | exact e55 | omega)⟩) d_Txp_keep_71
    · have nc36 : (f 12).toInt = (-1 : Int) := (i_eq (x := (f 12)) (y := (-1))).mp c36
      refine lv_aload_n S.x S.b d_Txp_keep_24 rfl (lv_at hl 1 rfl) ?_
      refine lv_aload_n S.x S.b d_Txp_keep_25 rfl (lv_at hl 1 rfl) ?_
      refine px_get S k_Txp hT hw 0 0 11 (v := .int (f 11)) rfl rfl rfl (by decide) m6_224 d_Txp_keep_26 ?_
      refine lv_iload_n S.x S.b d_Txp_keep_29 rfl (lv_at hl 0 rfl) ?_
      first | refine px_callv (pr := []) (px_runV (As := [.int (f 11), .int z35]) (rest := []) S (c_Txp_poke l D cs h r g hp f a (f 11) z35  (show TxOk (f 4) (f 5) (f 8) (f 9) (f 17) (f 21) (a 2) from ⟨lk, ⟨i2, i3⟩, ⟨i4, i5⟩, ⟨i6, i7⟩, i8, ⟨i9, i11⟩, i10, hrt⟩) _) hT (pr := []) (pcs := [wd_Txp cs h r (fun k => if k = 3 then (some hp) else none) f a g]) hw px_X.tt (px_recv hT hw 0 0 rfl rfl rfl) m8_129 m8_126 m8_128 ms_5_13 m1_35 q_Txp_poke ⟨Nat.le_of_ble_eq_true rfl, Nat.le_of_ble_eq_true rfl⟩ hl.1 rfl (Nat.le_of_ble_eq_true rfl) d_Txp_keep_30 ⟨Nat.le_of_ble_eq_true rfl, Nat.le_of_ble_eq_true rfl⟩) hw hA (fun p59 H locs hp59 hw => ?_) | refine px_callv (pr := []) (px_runV (As := [.int (f 11), .int z35]) (rest := []) S (c_Txp_poke l D cs h r g hp f a (f 11) z35  (show TxOk (f 4) (f 5) (f 8) (f 9) (f 17) (f 21) (a 2) from ⟨lk, ⟨by first | exact i2 | omega, by first | exact i3 | omega⟩, ⟨by first | exact i4 | omega, by first | exact i5 | omega⟩, ⟨by first | exact i6 | omega, by first | exact i7 | omega⟩, by first | exact i8 | omega, ⟨by first | exact i9 | omega, by first | exact i11 | omega⟩, by first | exact i10 | omega, hrt⟩) _) hT (pr := []) (pcs := [wd_Txp cs h r (fun k => if k = 3 then (some hp) else none) f a g]) hw px_X.tt (px_recv hT hw 0 0 rfl rfl rfl) m8_129 m8_126 m8_128 ms_5_13 m1_35 q_Txp_poke ⟨Nat.le_of_ble_eq_true rfl, Nat.le_of_ble_eq_true rfl⟩ hl.1 rfl (Nat.le_of_ble_eq_true rfl) d_Txp_keep_30 ⟨Nat.le_of_ble_eq_true rfl, Nat.le_of_ble_eq_true rfl⟩) hw hA (fun p59 H locs hp59 hw => ?_)
      obtain ⟨f57, a58, rfl, h67, e61, e62, e63, e64, e65, e66⟩ := hp59
      obtain ⟨lk, ⟨i2, i3⟩, ⟨i4, i5⟩, ⟨i6, i7⟩, i8, ⟨i9, i11⟩, i10, hrt⟩ := h67
      have e61 : (f57 9).toInt = (f 9).toInt := e61
      have e62 : (f57 17).toInt = (f 17).toInt := e62
      have e63 : (f57 21).toInt = (f 21).toInt := e63
      have e64 : (f57 15).toInt = (f 15).toInt := e64
      have e65 : (f57 20).toInt = (f 20).toInt := e65
      have e66 : (f57 4).toInt = (f 4).toInt := e66
      refine lv_goto (tgt := 70) S.x S.b d_Txp_keep_33 (by decide) ?_
      refine lv_iload_n S.x S.b d_Txp_keep_70 rfl (lv_at hl 0 rfl) ?_
      first | exact px_iret (v := z35) S hr rfl hlk hAe hw (Nat.le_of_ble_eq_true rfl) (Nat.le_of_ble_eq_true rfl) (⟨f57, a58, rfl, (show TxOk (f57 4) (f57 5) (f57 8) (f57 9) (f57 17) (f57 21) (a58 2) from ⟨lk, ⟨i2, i3⟩, ⟨i4, i5⟩, ⟨i6, i7⟩, i8, ⟨i9, i11⟩, i10, hrt⟩), (show (f57 9).toInt = (f 9).toInt from e61), (show (f57 17).toInt = (f 17).toInt from e62), (show (f57 21).toInt = (f 21).toInt from e63), (show (f57 15).toInt = (f 15).toInt from e64), (show (f57 20).toInt = (f 20).toInt from e65), (show (f57 4).toInt = (f 4).toInt from e66)⟩) d_Txp_keep_71 | exact px_iret (v := z35) S hr rfl hlk hAe hw (Nat.le_of_ble_eq_true rfl) (Nat.le_of_ble_eq_true rfl) (⟨f57, a58, rfl, (show TxOk (f57 4) (f57 5) (f57 8) (f57 9) (f57 17) (f57 21) (a58 2) from ⟨lk, ⟨by first | exact i2 | omega, by first | exact i3 | omega⟩, ⟨by first | exact i4 | omega, by first | exact i5 | omega⟩, ⟨by first | exact i6 | omega, by first | exact i7 | omega⟩, by first | exact i8 | omega, ⟨by first | exact i9 | omega, by first | exact i11 | omega⟩, by first | exact i10 | omega, hrt⟩), (show (f57 9).toInt = (f 9).toInt from by first | exact e61 | omega), (show (f57 17).toInt = (f 17).toInt from by first | exact e62 | omega), (show (f57 21).toInt = (f 21).toInt from by first | exact e63 | omega), (show (f57 15).toInt = (f 15).toInt from by first | exact e64 | omega), (show (f57 20).toInt = (f 20).toInt from by first | exact e65 | omega), (show (f57 4).toInt = (f 4).toInt from by first | exact e66 | omega)⟩) d_Txp_keep_71
abbrev b_Txp_binary : ByteArray := prog_11_method_14_code
def y_Txp_binary : MethodName := ⟨"HomeSystem$TextProcess", "binary", "(I)V"⟩
theorem d_Txp_binary_0 : decode b_Txp_binary 0 = .ok (.aload_n 0, 1) := by decide +kernel
theorem d_Txp_binary_1 : decode b_Txp_binary 1 = .ok (.invokevirtual 119, 3) := by decide +kernel
theorem d_Txp_binary_4 : decode b_Txp_binary 4 = .ok (.istore_n 2, 1) := by decide +kernel
theorem d_Txp_binary_5 : decode b_Txp_binary 5 = .ok (.aload_n 0, 1) := by decide +kernel
theorem d_Txp_binary_6 : decode b_Txp_binary 6 = .ok (.invokevirtual 119, 3) := by decide +kernel
theorem d_Txp_binary_9 : decode b_Txp_binary 9 = .ok (.istore_n 3, 1) := by decide +kernel
theorem d_Txp_binary_10 : decode b_Txp_binary 10 = .ok (.iload_n 1, 1) := by decide +kernel
theorem d_Txp_binary_11 : decode b_Txp_binary 11 = .ok (.iload_n 2, 1) := by decide +kernel
theorem d_Txp_binary_12 : decode b_Txp_binary 12 = .ok (.invokestatic 142, 3) := by decide +kernel
theorem d_Txp_binary_15 : decode b_Txp_binary 15 = .ok (.ifCond .eq 12, 3) := by decide +kernel
theorem d_Txp_binary_18 : decode b_Txp_binary 18 = .ok (.aload_n 0, 1) := by decide +kernel
theorem d_Txp_binary_19 : decode b_Txp_binary 19 = .ok (.iconst 3, 1) := by decide +kernel
theorem d_Txp_binary_20 : decode b_Txp_binary 20 = .ok (.iconst 0, 1) := by decide +kernel
theorem d_Txp_binary_21 : decode b_Txp_binary 21 = .ok (.invokevirtual 105, 3) := by decide +kernel
theorem d_Txp_binary_24 : decode b_Txp_binary 24 = .ok (.goto 13, 3) := by decide +kernel
theorem d_Txp_binary_27 : decode b_Txp_binary 27 = .ok (.aload_n 0, 1) := by decide +kernel
theorem d_Txp_binary_28 : decode b_Txp_binary 28 = .ok (.iload_n 1, 1) := by decide +kernel
theorem d_Txp_binary_29 : decode b_Txp_binary 29 = .ok (.iload_n 3, 1) := by decide +kernel
theorem d_Txp_binary_30 : decode b_Txp_binary 30 = .ok (.iload_n 2, 1) := by decide +kernel
theorem d_Txp_binary_31 : decode b_Txp_binary 31 = .ok (.invokestatic 146, 3) := by decide +kernel
theorem d_Txp_binary_34 : decode b_Txp_binary 34 = .ok (.invokevirtual 74, 3) := by decide +kernel
theorem d_Txp_binary_37 : decode b_Txp_binary 37 = .ok (.return_, 1) := by decide +kernel
theorem q_Txp_binary : px_y y_Txp_binary 1 := by unfold px_y; decide +kernel
set_option maxHeartbeats 4000000 in
set_option maxRecDepth 100000 in
theorem c_Txp_binary (l : Launch) (D : va_G) (cs : Nat → ClassId) (h : Nat) (r : Nat → Nat) (g : Nat → Nat → Option Nat) (hp : Nat) (f : Nat → Int32) (a : Nat → Nat → Int32) (p0 : Int32)  (hinv0 : TxOk (f 4) (f 5) (f 8) (f 9) (f 17) (f 21) (a 2)) (g0 : (f 21).toInt = 0) : MetV l y_Txp_binary b_Txp_binary 4 D cs 1 40 (0) (0) [.ref h, .int p0] [wd_Txp cs h r (fun k => if k = 3 then (some hp) else none) f a g] (fun _ => True) (fun ps => ∃ (f' : Nat → Int32) (a' : Nat → Nat → Int32), (ps = [wd_Txp cs h r (fun k => if k = 3 then (some hp) else none) f' a' g]) ∧ (TxOk (f' 4) (f' 5) (f' 8) (f' 9) (f' 17) (f' 21) (a' 2)) ∧ ((f' 9).toInt = (f 9).toInt) ∧ ((f' 17).toInt = (f 17).toInt) ∧ ((f' 21).toInt = 0) ∧ ((f' 15).toInt = (f 15).toInt) ∧ ((f' 20).toInt = (f 20).toInt)) := by
  refine px_enter (by decide) (Nat.le_of_ble_eq_true rfl) ?_
  intro p e s m below meth c A ls hAe S hr hlk hnm hA hT hX hw hl
  have hl : lv_has ls 4 [(0, .ref h), (1, .int p0)] := hl
  have lp0 := Int32.le_toInt p0
  have up0 := Int32.toInt_lt p0
  have cst0 : (0 : Int32).toInt = 0 := rfl
  have cst3 : (3 : Int32).toInt = 3 := rfl
  obtain ⟨lk, ⟨i2, i3⟩, ⟨i4, i5⟩, ⟨i6, i7⟩, i8, ⟨i9, i11⟩, i10, hrt⟩ := hinv0
  refine lv_aload_n S.x S.b d_Txp_binary_0 rfl (lv_at hl 0 rfl) ?_
  first | refine px_calli (pr := []) (px_runV (As := []) (rest := []) S (c_Txp_pop l D cs h r g hp f a   (show TxOk (f 4) (f 5) (f 8) (f 9) (f 17) (f 21) (a 2) from ⟨lk, ⟨i2, i3⟩, ⟨i4, i5⟩, ⟨i6, i7⟩, i8, ⟨i9, i11⟩, i10, hrt⟩) _) hT (pr := []) (pcs := [wd_Txp cs h r (fun k => if k = 3 then (some hp) else none) f a g]) hw px_X.tt (px_recv hT hw 0 0 rfl rfl rfl) m9_15 m9_12 m9_14 ms_7_0 m1_35 q_Txp_pop ⟨Nat.le_of_ble_eq_true rfl, Nat.le_of_ble_eq_true rfl⟩ hl.1 rfl (Nat.le_of_ble_eq_true rfl) d_Txp_binary_1 ⟨Nat.le_of_ble_eq_true rfl, Nat.le_of_ble_eq_true rfl⟩) hw hA (fun v4 p3 H locs hp3 hw => ?_) | refine px_calli (pr := []) (px_runV (As := []) (rest := []) S (c_Txp_pop l D cs h r g hp f a   (show TxOk (f 4) (f 5) (f 8) (f 9) (f 17) (f 21) (a 2) from ⟨lk, ⟨by first | exact i2 | omega, by first | exact i3 | omega⟩, ⟨by first | exact i4 | omega, by first | exact i5 | omega⟩, ⟨by first | exact i6 | omega, by first | exact i7 | omega⟩, by first | exact i8 | omega, ⟨by first | exact i9 | omega, by first | exact i11 | omega⟩, by first | exact i10 | omega, hrt⟩) _) hT (pr := []) (pcs := [wd_Txp cs h r (fun k => if k = 3 then (some hp) else none) f a g]) hw px_X.tt (px_recv hT hw 0 0 rfl rfl rfl) m9_15 m9_12 m9_14 ms_7_0 m1_35 q_Txp_pop ⟨Nat.le_of_ble_eq_true rfl, Nat.le_of_ble_eq_true rfl⟩ hl.1 rfl (Nat.le_of_ble_eq_true rfl) d_Txp_binary_1 ⟨Nat.le_of_ble_eq_true rfl, Nat.le_of_ble_eq_true rfl⟩) hw hA (fun v4 p3 H locs hp3 hw => ?_)
  obtain ⟨f1, a2, rfl, h11, e5, e6, e7, e8, e9, e10⟩ := hp3
  obtain ⟨lk, ⟨i2, i3⟩, ⟨i4, i5⟩, ⟨i6, i7⟩, i8, ⟨i9, i11⟩, i10, hrt⟩ := h11
  have e5 : (f1 9).toInt = (f 9).toInt := e5
  have e6 : (f1 17).toInt = (f 17).toInt := e6
  have e7 : (f1 21).toInt = (f 21).toInt := e7
  have e8 : (f1 15).toInt = (f 15).toInt := e8
  have e9 : (f1 20).toInt = (f 20).toInt := e9
  have e10 : (f1 4).toInt = (f 4).toInt := e10
  have lv4 := Int32.le_toInt v4
  have uv4 := Int32.toInt_lt v4
  refine lv_istore_n (lv' := [(2, .int v4), (0, .ref h), (1, .int p0)]) S.x S.b d_Txp_binary_4 rfl hl (by decide) rfl (fun ls hl => ?_)
  refine lv_aload_n S.x S.b d_Txp_binary_5 rfl (lv_at hl 1 rfl) ?_
  first | refine px_calli (pr := []) (px_runV (As := []) (rest := []) S (c_Txp_pop l D cs h r g hp f1 a2   (show TxOk (f1 4) (f1 5) (f1 8) (f1 9) (f1 17) (f1 21) (a2 2) from ⟨lk, ⟨i2, i3⟩, ⟨i4, i5⟩, ⟨i6, i7⟩, i8, ⟨i9, i11⟩, i10, hrt⟩) _) hT (pr := []) (pcs := [wd_Txp cs h r (fun k => if k = 3 then (some hp) else none) f1 a2 g]) hw px_X.tt (px_recv hT hw 0 0 rfl rfl rfl) m9_15 m9_12 m9_14 ms_7_0 m1_35 q_Txp_pop ⟨Nat.le_of_ble_eq_true rfl, Nat.le_of_ble_eq_true rfl⟩ hl.1 rfl (Nat.le_of_ble_eq_true rfl) d_Txp_binary_6 ⟨Nat.le_of_ble_eq_true rfl, Nat.le_of_ble_eq_true rfl⟩) hw hA (fun v15 p14 H locs hp14 hw => ?_) | refine px_calli (pr := []) (px_runV (As := []) (rest := []) S (c_Txp_pop l D cs h r g hp f1 a2   (show TxOk (f1 4) (f1 5) (f1 8) (f1 9) (f1 17) (f1 21) (a2 2) from ⟨lk, ⟨by first | exact i2 | omega, by first | exact i3 | omega⟩, ⟨by first | exact i4 | omega, by first | exact i5 | omega⟩, ⟨by first | exact i6 | omega, by first | exact i7 | omega⟩, by first | exact i8 | omega, ⟨by first | exact i9 | omega, by first | exact i11 | omega⟩, by first | exact i10 | omega, hrt⟩) _) hT (pr := []) (pcs := [wd_Txp cs h r (fun k => if k = 3 then (some hp) else none) f1 a2 g]) hw px_X.tt (px_recv hT hw 0 0 rfl rfl rfl) m9_15 m9_12 m9_14 ms_7_0 m1_35 q_Txp_pop ⟨Nat.le_of_ble_eq_true rfl, Nat.le_of_ble_eq_true rfl⟩ hl.1 rfl (Nat.le_of_ble_eq_true rfl) d_Txp_binary_6 ⟨Nat.le_of_ble_eq_true rfl, Nat.le_of_ble_eq_true rfl⟩) hw hA (fun v15 p14 H locs hp14 hw => ?_)
  obtain ⟨f12, a13, rfl, h22, e16, e17, e18, e19, e20, e21⟩ := hp14
  obtain ⟨lk, ⟨i2, i3⟩, ⟨i4, i5⟩, ⟨i6, i7⟩, i8, ⟨i9, i11⟩, i10, hrt⟩ := h22
  have e16 : (f12 9).toInt = (f1 9).toInt := e16
  have e17 : (f12 17).toInt = (f1 17).toInt := e17
  have e18 : (f12 21).toInt = (f1 21).toInt := e18
  have e19 : (f12 15).toInt = (f1 15).toInt := e19
  have e20 : (f12 20).toInt = (f1 20).toInt := e20
  have e21 : (f12 4).toInt = (f1 4).toInt := e21
  have lv15 := Int32.le_toInt v15
  have uv15 := Int32.toInt_lt v15
  refine lv_istore_n (lv' := [(3, .int v15), (2, .int v4), (0, .ref h), (1, .int p0)]) S.x S.b d_Txp_binary_9 rfl hl (by decide) rfl (fun ls hl => ?_)
  refine lv_iload_n S.x S.b d_Txp_binary_10 rfl (lv_at hl 3 rfl) ?_
  refine lv_iload_n S.x S.b d_Txp_binary_11 rfl (lv_at hl 1 rfl) ?_
  refine px_calli (pr := [wd_Txp cs h r (fun k => if k = 3 then (some hp) else none) f12 a13 g]) (px_runSN (As := [.int p0, .int v4]) (rest := []) S (c_Hs_byZero l D cs  p0 v4   _) hT (pr := [wd_Txp cs h r (fun k => if k = 3 then (some hp) else none) f12 a13 g]) (pcs := []) hw px_X.tt m5_97 m9_60n m5_96 m1_1 q_Hs_byZero ⟨Nat.le_of_ble_eq_true rfl, Nat.le_of_ble_eq_true rfl⟩ hl.1 rfl (Nat.le_of_ble_eq_true rfl) d_Txp_binary_12 ⟨Nat.le_of_ble_eq_true rfl, Nat.le_of_ble_eq_true rfl⟩) hw hA (fun v24 p23 H locs hp23 hw => ?_)
  obtain ⟨rfl, e25⟩ := hp23
  have e25 := z_rng e25
  have lv24 := Int32.le_toInt v24
  have uv24 := Int32.toInt_lt v24
  refine lv_if_eq (tgt := 27) S.x S.b d_Txp_binary_15 (by decide) (fun c26 => ?_) (fun c26 => ?_)
  · have nc26 : v24.toInt = (0 : Int) := (i_eq (x := v24) (y := 0)).mp c26
    refine lv_aload_n S.x S.b d_Txp_binary_27 rfl (lv_at hl 2 rfl) ?_
    refine lv_iload_n S.x S.b d_Txp_binary_28 rfl (lv_at hl 3 rfl) ?_
    refine lv_iload_n S.x S.b d_Txp_binary_29 rfl (lv_at hl 0 rfl) ?_
    refine lv_iload_n S.x S.b d_Txp_binary_30 rfl (lv_at hl 1 rfl) ?_
    refine px_calli (pr := [wd_Txp cs h r (fun k => if k = 3 then (some hp) else none) f12 a13 g]) (px_runSN (As := [.int p0, .int v15, .int v4]) (rest := [.ref h]) S (c_Hs_reckon l D cs  p0 v15 v4   _) hT (pr := [wd_Txp cs h r (fun k => if k = 3 then (some hp) else none) f12 a13 g]) (pcs := []) hw px_X.tt m5_100 m9_61n m5_99 m1_1 q_Hs_reckon ⟨Nat.le_of_ble_eq_true rfl, Nat.le_of_ble_eq_true rfl⟩ hl.1 rfl (Nat.le_of_ble_eq_true rfl) d_Txp_binary_31 ⟨Nat.le_of_ble_eq_true rfl, Nat.le_of_ble_eq_true rfl⟩) hw hA (fun v28 p27 H locs hp27 hw => ?_)
    subst hp27
    have lv28 := Int32.le_toInt v28
    have uv28 := Int32.toInt_lt v28
    first | refine px_callv (pr := []) (px_runV (As := [.int v28]) (rest := []) S (c_Txp_push l D cs h r g hp f12 a13 v28  (show TxOk (f12 4) (f12 5) (f12 8) (f12 9) (f12 17) (f12 21) (a13 2) from ⟨lk, ⟨i2, i3⟩, ⟨i4, i5⟩, ⟨i6, i7⟩, i8, ⟨i9, i11⟩, i10, hrt⟩) _) hT (pr := []) (pcs := [wd_Txp cs h r (fun k => if k = 3 then (some hp) else none) f12 a13 g]) hw px_X.tt (px_recv hT hw 0 0 rfl rfl rfl) m8_47 m8_44 m8_46 ms_5_6 m1_35 q_Txp_push ⟨Nat.le_of_ble_eq_true rfl, Nat.le_of_ble_eq_true rfl⟩ hl.1 rfl (Nat.le_of_ble_eq_true rfl) d_Txp_binary_34 ⟨Nat.le_of_ble_eq_true rfl, Nat.le_of_ble_eq_true rfl⟩) hw hA (fun p31 H locs hp31 hw => ?_) | refine px_callv (pr := []) (px_runV (As := [.int v28]) (rest := []) S (c_Txp_push l D cs h r g hp f12 a13 v28  (show TxOk (f12 4) (f12 5) (f12 8) (f12 9) (f12 17) (f12 21) (a13 2) from ⟨lk, ⟨by first | exact i2 | omega, by first | exact i3 | omega⟩, ⟨by first | exact i4 | omega, by first | exact i5 | omega⟩, ⟨by first | exact i6 | omega, by first | exact i7 | omega⟩, by first | exact i8 | omega, ⟨by first | exact i9 | omega, by first | exact i11 | omega⟩, by first | exact i10 | omega, hrt⟩) _) hT (pr := []) (pcs := [wd_Txp cs h r (fun k => if k = 3 then (some hp) else none) f12 a13 g]) hw px_X.tt (px_recv hT hw 0 0 rfl rfl rfl) m8_47 m8_44 m8_46 ms_5_6 m1_35 q_Txp_push ⟨Nat.le_of_ble_eq_true rfl, Nat.le_of_ble_eq_true rfl⟩ hl.1 rfl (Nat.le_of_ble_eq_true rfl) d_Txp_binary_34 ⟨Nat.le_of_ble_eq_true rfl, Nat.le_of_ble_eq_true rfl⟩) hw hA (fun p31 H locs hp31 hw => ?_)
    obtain ⟨f29, a30, rfl, h39, e33, e34, e35, e36, e37, e38⟩ := hp31
    obtain ⟨lk, ⟨i2, i3⟩, ⟨i4, i5⟩, ⟨i6, i7⟩, i8, ⟨i9, i11⟩, i10, hrt⟩ := h39
    have e33 : (f29 9).toInt = (f12 9).toInt := e33
    have e34 : (f29 17).toInt = (f12 17).toInt := e34
    have e35 : (f29 21).toInt = (f12 21).toInt := e35
    have e36 : (f29 15).toInt = (f12 15).toInt := e36
    have e37 : (f29 20).toInt = (f12 20).toInt := e37
    have e38 : (f29 4).toInt = (f12 4).toInt := e38
    first | exact px_vret S hr hlk hAe hw (Nat.le_of_ble_eq_true rfl) (Nat.le_of_ble_eq_true rfl) (⟨f29, a30, rfl, (show TxOk (f29 4) (f29 5) (f29 8) (f29 9) (f29 17) (f29 21) (a30 2) from ⟨lk, ⟨i2, i3⟩, ⟨i4, i5⟩, ⟨i6, i7⟩, i8, ⟨i9, i11⟩, i10, hrt⟩), (show (f29 9).toInt = (f 9).toInt from (oz_e13fc83238 e5 e33 e16)), (show (f29 17).toInt = (f 17).toInt from (oz_e13fc83238 e6 e34 e17)), (show (f29 21).toInt = 0 from (oz_96aae3e9d2 e35 e18 e7 g0 i9)), (show (f29 15).toInt = (f 15).toInt from (oz_e13fc83238 e8 e36 e19)), (show (f29 20).toInt = (f 20).toInt from (oz_e13fc83238 e9 e37 e20))⟩) d_Txp_binary_37 | exact px_vret S hr hlk hAe hw (Nat.le_of_ble_eq_true rfl) (Nat.le_of_ble_eq_true rfl) (⟨f29, a30, rfl, (show TxOk (f29 4) (f29 5) (f29 8) (f29 9) (f29 17) (f29 21) (a30 2) from ⟨lk, ⟨by first | exact i2 | omega, by first | exact i3 | omega⟩, ⟨by first | exact i4 | omega, by first | exact i5 | omega⟩, ⟨by first | exact i6 | omega, by first | exact i7 | omega⟩, by first | exact i8 | omega, ⟨by first | exact i9 | omega, by first | exact i11 | omega⟩, by first | exact i10 | omega, hrt⟩), (show (f29 9).toInt = (f 9).toInt from by first | exact oz_e13fc83238 e5 e33 e16 | omega), (show (f29 17).toInt = (f 17).toInt from by first | exact oz_e13fc83238 e6 e34 e17 | omega), (show (f29 21).toInt = 0 from by first | exact oz_96aae3e9d2 e35 e18 e7 g0 i9 | omega), (show (f29 15).toInt = (f 15).toInt from by first | exact oz_e13fc83238 e8 e36 e19 | omega), (show (f29 20).toInt = (f 20).toInt from by first | exact oz_e13fc83238 e9 e37 e20 | omega)⟩) d_Txp_binary_37
  · have nc26 : ¬ v24.toInt = (0 : Int) := mt (i_eq (x := v24) (y := 0)).mpr c26
    refine lv_aload_n S.x S.b d_Txp_binary_18 rfl (lv_at hl 2 rfl) ?_
    refine lv_iconst (v := 3) S.x S.b d_Txp_binary_19 (by decide) ?_
    refine lv_iconst (v := 0) S.x S.b d_Txp_binary_20 (by decide) ?_
    first | refine px_callv (pr := []) (px_runU (As := [.int 3, .int 0]) (rest := []) S (c_finish_Txp l D cs h r g hp f12 a13 3 0  (show TxOk (f12 4) (f12 5) (f12 8) (f12 9) (f12 17) (f12 21) (a13 2) from ⟨lk, ⟨i2, i3⟩, ⟨i4, i5⟩, ⟨i6, i7⟩, i8, ⟨i9, i11⟩, i10, hrt⟩) _) hT (pr := []) (pcs := [wd_Txp cs h r (fun k => if k = 3 then (some hp) else none) f12 a13 g]) hw px_X.tt (C := "HomeSystem$TextProcess") (x := ⟨"HomeSystem$TextProcess", "finish", "(II)V"⟩) (px_recv hT hw 0 0 rfl rfl rfl) m8_89 m9_5 m9_6 m8_85 m9_7 m1_33 rfl q_HomeSystem_AnyProcess_finish ⟨Nat.le_of_ble_eq_true rfl, Nat.le_of_ble_eq_true rfl⟩ hl.1 rfl (Nat.le_of_ble_eq_true rfl) d_Txp_binary_21 ⟨Nat.le_of_ble_eq_true rfl, Nat.le_of_ble_eq_true rfl⟩) hw hA (fun p42 H locs hp42 hw => ?_) | refine px_callv (pr := []) (px_runU (As := [.int 3, .int 0]) (rest := []) S (c_finish_Txp l D cs h r g hp f12 a13 3 0  (show TxOk (f12 4) (f12 5) (f12 8) (f12 9) (f12 17) (f12 21) (a13 2) from ⟨lk, ⟨by first | exact i2 | omega, by first | exact i3 | omega⟩, ⟨by first | exact i4 | omega, by first | exact i5 | omega⟩, ⟨by first | exact i6 | omega, by first | exact i7 | omega⟩, by first | exact i8 | omega, ⟨by first | exact i9 | omega, by first | exact i11 | omega⟩, by first | exact i10 | omega, hrt⟩) _) hT (pr := []) (pcs := [wd_Txp cs h r (fun k => if k = 3 then (some hp) else none) f12 a13 g]) hw px_X.tt (C := "HomeSystem$TextProcess") (x := ⟨"HomeSystem$TextProcess", "finish", "(II)V"⟩) (px_recv hT hw 0 0 rfl rfl rfl) m8_89 m9_5 m9_6 m8_85 m9_7 m1_33 rfl q_HomeSystem_AnyProcess_finish ⟨Nat.le_of_ble_eq_true rfl, Nat.le_of_ble_eq_true rfl⟩ hl.1 rfl (Nat.le_of_ble_eq_true rfl) d_Txp_binary_21 ⟨Nat.le_of_ble_eq_true rfl, Nat.le_of_ble_eq_true rfl⟩) hw hA (fun p42 H locs hp42 hw => ?_)
    obtain ⟨f40, a41, rfl, h49, e44, e45, e46, e47, e48⟩ := hp42
    obtain ⟨lk, ⟨i2, i3⟩, ⟨i4, i5⟩, ⟨i6, i7⟩, i8, ⟨i9, i11⟩, i10, hrt⟩ := h49
    have e44 : (f40 9).toInt = (f12 9).toInt := e44
    have e45 : (f40 17).toInt = (f12 17).toInt := e45
    have e46 : (f40 21).toInt = 0 := e46
    have e47 : (f40 15).toInt = (f12 15).toInt := e47
    have e48 : (f40 20).toInt = (f12 20).toInt := e48
    refine lv_goto (tgt := 37) S.x S.b d_Txp_binary_24 (by decide) ?_
    first | exact px_vret S hr hlk hAe hw (Nat.le_of_ble_eq_true rfl) (Nat.le_of_ble_eq_true rfl) (⟨f40, a41, rfl, (show TxOk (f40 4) (f40 5) (f40 8) (f40 9) (f40 17) (f40 21) (a41 2) from ⟨lk, ⟨i2, i3⟩, ⟨i4, i5⟩, ⟨i6, i7⟩, i8, ⟨i9, i11⟩, i10, hrt⟩), (show (f40 9).toInt = (f 9).toInt from (oz_e13fc83238 e5 e44 e16)), (show (f40 17).toInt = (f 17).toInt from (oz_e13fc83238 e6 e45 e17)), (show (f40 21).toInt = 0 from e46), (show (f40 15).toInt = (f 15).toInt from (oz_e13fc83238 e8 e47 e19)), (show (f40 20).toInt = (f 20).toInt from (oz_e13fc83238 e9 e48 e20))⟩) d_Txp_binary_37 | exact px_vret S hr hlk hAe hw (Nat.le_of_ble_eq_true rfl) (Nat.le_of_ble_eq_true rfl) (⟨f40, a41, rfl, (show TxOk (f40 4) (f40 5) (f40 8) (f40 9) (f40 17) (f40 21) (a41 2) from ⟨lk, ⟨by first | exact i2 | omega, by first | exact i3 | omega⟩, ⟨by first | exact i4 | omega, by first | exact i5 | omega⟩, ⟨by first | exact i6 | omega, by first | exact i7 | omega⟩, by first | exact i8 | omega, ⟨by first | exact i9 | omega, by first | exact i11 | omega⟩, by first | exact i10 | omega, hrt⟩), (show (f40 9).toInt = (f 9).toInt from by first | exact oz_e13fc83238 e5 e44 e16 | omega), (show (f40 17).toInt = (f 17).toInt from by first | exact oz_e13fc83238 e6 e45 e17 | omega), (show (f40 21).toInt = 0 from by first | exact e46 | omega), (show (f40 15).toInt = (f 15).toInt from by first | exact oz_e13fc83238 e8 e47 e19 | omega), (show (f40 20).toInt = (f 20).toInt from by first | exact oz_e13fc83238 e9 e48 e20 | omega)⟩) d_Txp_binary_37
abbrev b_Txp_pay : ByteArray := prog_11_method_22_code
def y_Txp_pay : MethodName := ⟨"HomeSystem$TextProcess", "pay", "()Z"⟩
theorem d_Txp_pay_0 : decode b_Txp_pay 0 = .ok (.aload_n 0, 1) := by decide +kernel
theorem d_Txp_pay_1 : decode b_Txp_pay 1 = .ok (.getfield 29, 3) := by decide +kernel
theorem d_Txp_pay_4 : decode b_Txp_pay 4 = .ok (.ifCond .ne 11, 3) := by decide +kernel
theorem d_Txp_pay_7 : decode b_Txp_pay 7 = .ok (.aload_n 0, 1) := by decide +kernel
theorem d_Txp_pay_8 : decode b_Txp_pay 8 = .ok (.iconst 5, 1) := by decide +kernel
theorem d_Txp_pay_9 : decode b_Txp_pay 9 = .ok (.iconst 0, 1) := by decide +kernel
theorem d_Txp_pay_10 : decode b_Txp_pay 10 = .ok (.invokevirtual 105, 3) := by decide +kernel
theorem d_Txp_pay_13 : decode b_Txp_pay 13 = .ok (.iconst 0, 1) := by decide +kernel
theorem d_Txp_pay_14 : decode b_Txp_pay 14 = .ok (.ireturn, 1) := by decide +kernel
theorem d_Txp_pay_15 : decode b_Txp_pay 15 = .ok (.aload_n 0, 1) := by decide +kernel
theorem d_Txp_pay_16 : decode b_Txp_pay 16 = .ok (.dup, 1) := by decide +kernel
theorem d_Txp_pay_17 : decode b_Txp_pay 17 = .ok (.getfield 29, 3) := by decide +kernel
theorem d_Txp_pay_20 : decode b_Txp_pay 20 = .ok (.iconst 1, 1) := by decide +kernel
theorem d_Txp_pay_21 : decode b_Txp_pay 21 = .ok (.isub, 1) := by decide +kernel
theorem d_Txp_pay_22 : decode b_Txp_pay 22 = .ok (.putfield 29, 3) := by decide +kernel
theorem d_Txp_pay_25 : decode b_Txp_pay 25 = .ok (.iconst 1, 1) := by decide +kernel
theorem d_Txp_pay_26 : decode b_Txp_pay 26 = .ok (.ireturn, 1) := by decide +kernel
theorem q_Txp_pay : px_y y_Txp_pay 0 := by unfold px_y; decide +kernel
set_option maxHeartbeats 4000000 in
set_option maxRecDepth 100000 in
theorem c_Txp_pay (l : Launch) (D : va_G) (cs : Nat → ClassId) (h : Nat) (r : Nat → Nat) (g : Nat → Nat → Option Nat) (hp : Nat) (f : Nat → Int32) (a : Nat → Nat → Int32)  (hinv0 : TxOk (f 4) (f 5) (f 8) (f 9) (f 17) (f 21) (a 2)) (g0 : (f 21).toInt = 0) : MetI l y_Txp_pay b_Txp_pay 1 (.boolean) D cs 1 30 (0) (0) [.ref h] [wd_Txp cs h r (fun k => if k = 3 then (some hp) else none) f a g] (fun _ => True) (fun v ps => ∃ (f' : Nat → Int32) (a' : Nat → Nat → Int32), (ps = [wd_Txp cs h r (fun k => if k = 3 then (some hp) else none) f' a' g]) ∧ (TxOk (f' 4) (f' 5) (f' 8) (f' 9) (f' 17) (f' 21) (a' 2)) ∧ (v = 0 ∨ v = 1) ∧ (v.toInt = 1 → (f' 9).toInt = (f 9).toInt - 1) ∧ ((f' 17).toInt = (f 17).toInt) ∧ ((f' 21).toInt = 0) ∧ ((f' 15).toInt = (f 15).toInt) ∧ ((f' 20).toInt = (f 20).toInt) ∧ ((f' 9).toInt ≤ (f 9).toInt)) := by
  refine px_enter (by decide) (Nat.le_of_ble_eq_true rfl) ?_
  intro p e s m below meth c A ls hAe S hr hlk hnm hA hT hX hw hl
  have hl : lv_has ls 1 [(0, .ref h)] := hl
  have cst0 : (0 : Int32).toInt = 0 := rfl
  have cst1 : (1 : Int32).toInt = 1 := rfl
  have cst5 : (5 : Int32).toInt = 5 := rfl
  obtain ⟨lk, ⟨i2, i3⟩, ⟨i4, i5⟩, ⟨i6, i7⟩, i8, ⟨i9, i11⟩, i10, hrt⟩ := hinv0
  refine lv_aload_n S.x S.b d_Txp_pay_0 rfl (lv_at hl 0 rfl) ?_
  refine px_get S k_Txp hT hw 0 0 9 (v := .int (f 9)) rfl rfl rfl (by decide) m6_222 d_Txp_pay_1 ?_
  refine lv_if_ne (tgt := 15) S.x S.b d_Txp_pay_4 (by decide) (fun c1 => ?_) (fun c1 => ?_)
  · have nc1 : ¬ (f 9).toInt = (0 : Int) := mt (i_eq (x := (f 9)) (y := 0)).mpr c1
    refine lv_aload_n S.x S.b d_Txp_pay_15 rfl (lv_at hl 0 rfl) ?_
    refine lv_dup S.x S.b d_Txp_pay_16 rfl ?_
    refine px_get S k_Txp hT hw 0 0 9 (v := .int (f 9)) rfl rfl rfl (by decide) m6_222 d_Txp_pay_17 ?_
    refine lv_iconst (v := 1) S.x S.b d_Txp_pay_20 (by decide) ?_
    refine lv_isub S.x S.b d_Txp_pay_21 ?_
    have lr2 := Int32.le_toInt (f 9)
    have ur2 := Int32.toInt_lt (f 9)
    refine lv_topi (fun z3 ez3 => ?_)
    have tz3 : z3.toInt = ((f 9).toInt - (1 : Int) + 2147483648) % 4294967296 - 2147483648 := by rw [ez3]; exact i_sub (f 9) 1
    have lz3 := Int32.le_toInt z3
    have uz3 := Int32.toInt_lt z3
    try replace tz3 : z3.toInt = (f 9).toInt - (1 : Int) := by omega
    refine px_put S k_Txp hT hw 0 0 9 rfl rfl (by decide) m6_222 rfl rfl rfl (Nat.le_of_ble_eq_true rfl) d_Txp_pay_22 (w' := wd_Txp cs h r (fun k => if k = 3 then (some hp) else none) (upd f 9 z3) a g) (ps' := [wd_Txp cs h r (fun k => if k = 3 then (some hp) else none) (upd f 9 z3) a g]) rfl rfl (fun H locs hw => ?_)
    refine lv_iconst (v := 1) S.x S.b d_Txp_pay_25 (by decide) ?_
    first | exact px_iret (v := 1) S hr rfl hlk hAe hw (Nat.le_of_ble_eq_true rfl) (Nat.le_of_ble_eq_true rfl) (⟨(upd f 9 z3), a, rfl, (show TxOk (f 4) (f 5) (f 8) z3 (f 17) (f 21) (a 2) from ⟨lk, ⟨i2, i3⟩, ⟨i4, i5⟩, ⟨(oz_229fe14250 tz3 i6 nc1), (oz_c2ccfb1ff9 tz3 i7)⟩, i8, ⟨i9, i11⟩, (oz_3c7696f187 i10 tz3), hrt⟩), (show (1 : Int32) = 0 ∨ (1 : Int32) = 1 from by first | exact Or.inl rfl | exact Or.inr rfl | exact z_or (by omega)), (show (1 : Int) = 1 → z3.toInt = (f 9).toInt - 1 from by first | with_reducible rfl | with_reducible assumption | omega), (show (f 17).toInt = (f 17).toInt from rfl), (show (f 21).toInt = 0 from g0), (show (f 15).toInt = (f 15).toInt from rfl), (show (f 20).toInt = (f 20).toInt from rfl), (show z3.toInt ≤ (f 9).toInt from (oz_143d7f65a4 tz3))⟩) d_Txp_pay_26 | exact px_iret (v := 1) S hr rfl hlk hAe hw (Nat.le_of_ble_eq_true rfl) (Nat.le_of_ble_eq_true rfl) (⟨(upd f 9 z3), a, rfl, (show TxOk (f 4) (f 5) (f 8) z3 (f 17) (f 21) (a 2) from ⟨lk, ⟨by first | exact i2 | omega, by first | exact i3 | omega⟩, ⟨by first | exact i4 | omega, by first | exact i5 | omega⟩, ⟨by first | exact oz_229fe14250 tz3 i6 nc1 | omega, by first | exact oz_c2ccfb1ff9 tz3 i7 | omega⟩, by first | exact i8 | omega, ⟨by first | exact i9 | omega, by first | exact i11 | omega⟩, by first | exact oz_3c7696f187 i10 tz3 | omega, hrt⟩), (show (1 : Int32) = 0 ∨ (1 : Int32) = 1 from by first | exact Or.inl rfl | exact Or.inr rfl | exact z_or (by omega)), (show (1 : Int) = 1 → z3.toInt = (f 9).toInt - 1 from by first | with_reducible rfl | with_reducible assumption | omega), (show (f 17).toInt = (f 17).toInt from rfl), (show (f 21).toInt = 0 from by first | exact g0 | omega), (show (f 15).toInt = (f 15).toInt from rfl), (show (f 20).toInt = (f 20).toInt from rfl), (show z3.toInt ≤ (f 9).toInt from by first | exact oz_143d7f65a4 tz3 | omega)⟩) d_Txp_pay_26
  · have nc1 : (f 9).toInt = (0 : Int) := (i_eq (x := (f 9)) (y := 0)).mp c1
    refine lv_aload_n S.x S.b d_Txp_pay_7 rfl (lv_at hl 0 rfl) ?_
    refine lv_iconst (v := 5) S.x S.b d_Txp_pay_8 (by decide) ?_
    refine lv_iconst (v := 0) S.x S.b d_Txp_pay_9 (by decide) ?_
    first | refine px_callv (pr := []) (px_runU (As := [.int 5, .int 0]) (rest := []) S (c_finish_Txp l D cs h r g hp f a 5 0  (show TxOk (f 4) (f 5) (f 8) (f 9) (f 17) (f 21) (a 2) from ⟨lk, ⟨i2, i3⟩, ⟨i4, i5⟩, ⟨i6, i7⟩, i8, ⟨i9, i11⟩, i10, hrt⟩) _) hT (pr := []) (pcs := [wd_Txp cs h r (fun k => if k = 3 then (some hp) else none) f a g]) hw px_X.tt (C := "HomeSystem$TextProcess") (x := ⟨"HomeSystem$TextProcess", "finish", "(II)V"⟩) (px_recv hT hw 0 0 rfl rfl rfl) m8_89 m9_5 m9_6 m8_85 m9_7 m1_33 rfl q_HomeSystem_AnyProcess_finish ⟨Nat.le_of_ble_eq_true rfl, Nat.le_of_ble_eq_true rfl⟩ hl.1 rfl (Nat.le_of_ble_eq_true rfl) d_Txp_pay_10 ⟨Nat.le_of_ble_eq_true rfl, Nat.le_of_ble_eq_true rfl⟩) hw hA (fun p6 H locs hp6 hw => ?_) | refine px_callv (pr := []) (px_runU (As := [.int 5, .int 0]) (rest := []) S (c_finish_Txp l D cs h r g hp f a 5 0  (show TxOk (f 4) (f 5) (f 8) (f 9) (f 17) (f 21) (a 2) from ⟨lk, ⟨by first | exact i2 | omega, by first | exact i3 | omega⟩, ⟨by first | exact i4 | omega, by first | exact i5 | omega⟩, ⟨by first | exact i6 | omega, by first | exact i7 | omega⟩, by first | exact i8 | omega, ⟨by first | exact i9 | omega, by first | exact i11 | omega⟩, by first | exact i10 | omega, hrt⟩) _) hT (pr := []) (pcs := [wd_Txp cs h r (fun k => if k = 3 then (some hp) else none) f a g]) hw px_X.tt (C := "HomeSystem$TextProcess") (x := ⟨"HomeSystem$TextProcess", "finish", "(II)V"⟩) (px_recv hT hw 0 0 rfl rfl rfl) m8_89 m9_5 m9_6 m8_85 m9_7 m1_33 rfl q_HomeSystem_AnyProcess_finish ⟨Nat.le_of_ble_eq_true rfl, Nat.le_of_ble_eq_true rfl⟩ hl.1 rfl (Nat.le_of_ble_eq_true rfl) d_Txp_pay_10 ⟨Nat.le_of_ble_eq_true rfl, Nat.le_of_ble_eq_true rfl⟩) hw hA (fun p6 H locs hp6 hw => ?_)
    obtain ⟨f4, a5, rfl, h13, e8, e9, e10, e11, e12⟩ := hp6
    obtain ⟨lk, ⟨i2, i3⟩, ⟨i4, i5⟩, ⟨i6, i7⟩, i8, ⟨i9, i11⟩, i10, hrt⟩ := h13
    have e8 : (f4 9).toInt = (f 9).toInt := e8
    have e9 : (f4 17).toInt = (f 17).toInt := e9
    have e10 : (f4 21).toInt = 0 := e10
    have e11 : (f4 15).toInt = (f 15).toInt := e11
    have e12 : (f4 20).toInt = (f 20).toInt := e12
    refine lv_iconst (v := 0) S.x S.b d_Txp_pay_13 (by decide) ?_
    first | exact px_iret (v := 0) S hr rfl hlk hAe hw (Nat.le_of_ble_eq_true rfl) (Nat.le_of_ble_eq_true rfl) (⟨f4, a5, rfl, (show TxOk (f4 4) (f4 5) (f4 8) (f4 9) (f4 17) (f4 21) (a5 2) from ⟨lk, ⟨i2, i3⟩, ⟨i4, i5⟩, ⟨i6, i7⟩, i8, ⟨i9, i11⟩, i10, hrt⟩), (show (0 : Int32) = 0 ∨ (0 : Int32) = 1 from by first | exact Or.inl rfl | exact Or.inr rfl | exact z_or (by omega)), (show (0 : Int) = 1 → (f4 9).toInt = (f 9).toInt - 1 from by first | with_reducible rfl | with_reducible assumption | omega), (show (f4 17).toInt = (f 17).toInt from e9), (show (f4 21).toInt = 0 from e10), (show (f4 15).toInt = (f 15).toInt from e11), (show (f4 20).toInt = (f 20).toInt from e12), (show (f4 9).toInt ≤ (f 9).toInt from (oz_5b5f5658b9 e8))⟩) d_Txp_pay_14 | exact px_iret (v := 0) S hr rfl hlk hAe hw (Nat.le_of_ble_eq_true rfl) (Nat.le_of_ble_eq_true rfl) (⟨f4, a5, rfl, (show TxOk (f4 4) (f4 5) (f4 8) (f4 9) (f4 17) (f4 21) (a5 2) from ⟨lk, ⟨by first | exact i2 | omega, by first | exact i3 | omega⟩, ⟨by first | exact i4 | omega, by first | exact i5 | omega⟩, ⟨by first | exact i6 | omega, by first | exact i7 | omega⟩, by first | exact i8 | omega, ⟨by first | exact i9 | omega, by first | exact i11 | omega⟩, by first | exact i10 | omega, hrt⟩), (show (0 : Int32) = 0 ∨ (0 : Int32) = 1 from by first | exact Or.inl rfl | exact Or.inr rfl | exact z_or (by omega)), (show (0 : Int) = 1 → (f4 9).toInt = (f 9).toInt - 1 from by first | with_reducible rfl | with_reducible assumption | omega), (show (f4 17).toInt = (f 17).toInt from by first | exact e9 | omega), (show (f4 21).toInt = 0 from by first | exact e10 | omega), (show (f4 15).toInt = (f 15).toInt from by first | exact e11 | omega), (show (f4 20).toInt = (f 20).toInt from by first | exact e12 | omega), (show (f4 9).toInt ≤ (f 9).toInt from by first | exact oz_5b5f5658b9 e8 | omega)⟩) d_Txp_pay_14
abbrev b_Txp_give : ByteArray := prog_11_method_24_code
def y_Txp_give : MethodName := ⟨"HomeSystem$TextProcess", "give", "()V"⟩
theorem d_Txp_give_0 : decode b_Txp_give 0 = .ok (.aload_n 0, 1) := by decide +kernel
theorem d_Txp_give_1 : decode b_Txp_give 1 = .ok (.getfield 47, 3) := by decide +kernel
theorem d_Txp_give_4 : decode b_Txp_give 4 = .ok (.ifCond .le 13, 3) := by decide +kernel
theorem d_Txp_give_7 : decode b_Txp_give 7 = .ok (.aload_n 0, 1) := by decide +kernel
theorem d_Txp_give_8 : decode b_Txp_give 8 = .ok (.dup, 1) := by decide +kernel
theorem d_Txp_give_9 : decode b_Txp_give 9 = .ok (.getfield 47, 3) := by decide +kernel
theorem d_Txp_give_12 : decode b_Txp_give 12 = .ok (.iconst 1, 1) := by decide +kernel
theorem d_Txp_give_13 : decode b_Txp_give 13 = .ok (.isub, 1) := by decide +kernel
theorem d_Txp_give_14 : decode b_Txp_give 14 = .ok (.putfield 47, 3) := by decide +kernel
theorem d_Txp_give_17 : decode b_Txp_give 17 = .ok (.iconst 3, 1) := by decide +kernel
theorem d_Txp_give_18 : decode b_Txp_give 18 = .ok (.aload_n 0, 1) := by decide +kernel
theorem d_Txp_give_19 : decode b_Txp_give 19 = .ok (.getfield 47, 3) := by decide +kernel
theorem d_Txp_give_22 : decode b_Txp_give 22 = .ok (.imul, 1) := by decide +kernel
theorem d_Txp_give_23 : decode b_Txp_give 23 = .ok (.istore_n 1, 1) := by decide +kernel
theorem d_Txp_give_24 : decode b_Txp_give 24 = .ok (.aload_n 0, 1) := by decide +kernel
theorem d_Txp_give_25 : decode b_Txp_give 25 = .ok (.aload_n 0, 1) := by decide +kernel
theorem d_Txp_give_26 : decode b_Txp_give 26 = .ok (.getfield 18, 3) := by decide +kernel
theorem d_Txp_give_29 : decode b_Txp_give 29 = .ok (.iload_n 1, 1) := by decide +kernel
theorem d_Txp_give_30 : decode b_Txp_give 30 = .ok (.iaload, 1) := by decide +kernel
theorem d_Txp_give_31 : decode b_Txp_give 31 = .ok (.putfield 41, 3) := by decide +kernel
theorem d_Txp_give_34 : decode b_Txp_give 34 = .ok (.aload_n 0, 1) := by decide +kernel
theorem d_Txp_give_35 : decode b_Txp_give 35 = .ok (.aload_n 0, 1) := by decide +kernel
theorem d_Txp_give_36 : decode b_Txp_give 36 = .ok (.getfield 50, 3) := by decide +kernel
theorem d_Txp_give_39 : decode b_Txp_give 39 = .ok (.putfield 53, 3) := by decide +kernel
theorem d_Txp_give_42 : decode b_Txp_give 42 = .ok (.aload_n 0, 1) := by decide +kernel
theorem d_Txp_give_43 : decode b_Txp_give 43 = .ok (.aload_n 0, 1) := by decide +kernel
theorem d_Txp_give_44 : decode b_Txp_give 44 = .ok (.getfield 18, 3) := by decide +kernel
theorem d_Txp_give_47 : decode b_Txp_give 47 = .ok (.iload_n 1, 1) := by decide +kernel
theorem d_Txp_give_48 : decode b_Txp_give 48 = .ok (.iconst 1, 1) := by decide +kernel
theorem d_Txp_give_49 : decode b_Txp_give 49 = .ok (.iadd, 1) := by decide +kernel
theorem d_Txp_give_50 : decode b_Txp_give 50 = .ok (.iaload, 1) := by decide +kernel
theorem d_Txp_give_51 : decode b_Txp_give 51 = .ok (.putfield 50, 3) := by decide +kernel
theorem d_Txp_give_54 : decode b_Txp_give 54 = .ok (.aload_n 0, 1) := by decide +kernel
theorem d_Txp_give_55 : decode b_Txp_give 55 = .ok (.dup, 1) := by decide +kernel
theorem d_Txp_give_56 : decode b_Txp_give 56 = .ok (.getfield 33, 3) := by decide +kernel
theorem d_Txp_give_59 : decode b_Txp_give 59 = .ok (.aload_n 0, 1) := by decide +kernel
theorem d_Txp_give_60 : decode b_Txp_give 60 = .ok (.getfield 18, 3) := by decide +kernel
theorem d_Txp_give_63 : decode b_Txp_give 63 = .ok (.iload_n 1, 1) := by decide +kernel
theorem d_Txp_give_64 : decode b_Txp_give 64 = .ok (.iconst 2, 1) := by decide +kernel
theorem d_Txp_give_65 : decode b_Txp_give 65 = .ok (.iadd, 1) := by decide +kernel
theorem d_Txp_give_66 : decode b_Txp_give 66 = .ok (.iaload, 1) := by decide +kernel
theorem d_Txp_give_67 : decode b_Txp_give 67 = .ok (.iadd, 1) := by decide +kernel
theorem d_Txp_give_68 : decode b_Txp_give 68 = .ok (.putfield 33, 3) := by decide +kernel
theorem d_Txp_give_71 : decode b_Txp_give 71 = .ok (.return_, 1) := by decide +kernel
theorem q_Txp_give : px_y y_Txp_give 0 := by unfold px_y; decide +kernel
set_option maxHeartbeats 4000000 in
set_option maxRecDepth 100000 in
theorem c_Txp_give (l : Launch) (D : va_G) (cs : Nat → ClassId) (h : Nat) (r : Nat → Nat) (g : Nat → Nat → Option Nat) (hp : Nat) (f : Nat → Int32) (a : Nat → Nat → Int32)  (hinv0 : TxOk (f 4) (f 5) (f 8) (f 9) (f 17) (f 21) (a 2)) : MetV l y_Txp_give b_Txp_give 2 D cs 0 0 (0) (0) [.ref h] [wd_Txp cs h r (fun k => if k = 3 then (some hp) else none) f a g] (fun _ => True) (fun ps => ∃ (f' : Nat → Int32) (a' : Nat → Nat → Int32), (ps = [wd_Txp cs h r (fun k => if k = 3 then (some hp) else none) f' a' g]) ∧ (TxOk (f' 4) (f' 5) (f' 8) (f' 9) (f' 17) (f' 21) (a' 2)) ∧ ((f' 9).toInt = (f 9).toInt) ∧ ((f' 17).toInt = (f 17).toInt) ∧ ((f' 21).toInt = (f 21).toInt) ∧ ((f' 15).toInt = (f 15).toInt) ∧ ((f' 20).toInt = (f 20).toInt)) := by
  refine px_enter (by decide) (Nat.le_of_ble_eq_true rfl) ?_
  intro p e s m below meth c A ls hAe S hr hlk hnm hA hT hX hw hl
  have hl : lv_has ls 2 [(0, .ref h)] := hl
  have cst1 : (1 : Int32).toInt = 1 := rfl
  have cst2 : (2 : Int32).toInt = 2 := rfl
  have cst3 : (3 : Int32).toInt = 3 := rfl
  obtain ⟨lk, ⟨i2, i3⟩, ⟨i4, i5⟩, ⟨i6, i7⟩, i8, ⟨i9, i11⟩, i10, hrt⟩ := hinv0
  refine lv_aload_n S.x S.b d_Txp_give_0 rfl (lv_at hl 0 rfl) ?_
  refine px_get S k_Txp hT hw 0 0 8 (v := .int (f 8)) rfl rfl rfl (by decide) m6_221 d_Txp_give_1 ?_
  refine lv_if_le (tgt := 17) S.x S.b d_Txp_give_4 (by decide) (fun c1 => ?_) (fun c1 => ?_)
  · have nc1 : (f 8).toInt ≤ (0 : Int) := (i_le (x := (f 8)) (y := 0)).mp c1
    refine lv_iconst (v := 3) S.x S.b d_Txp_give_17 (by decide) ?_
    refine lv_aload_n S.x S.b d_Txp_give_18 rfl (lv_at hl 0 rfl) ?_
    refine px_get S k_Txp hT hw 0 0 8 (v := .int (f 8)) rfl rfl rfl (by decide) m6_221 d_Txp_give_19 ?_
    refine lv_imul S.x S.b d_Txp_give_22 ?_
    have lr2 := Int32.le_toInt (f 8)
    have ur2 := Int32.toInt_lt (f 8)
    refine lv_topi (fun z3 ez3 => ?_)
    have lz3 := Int32.le_toInt z3
    have uz3 := Int32.toInt_lt z3
    have tz3 : -2147483648 ≤ 3 * (f 8).toInt → 3 * (f 8).toInt < 2147483648 → z3.toInt = 3 * (f 8).toInt := by rw [ez3]; exact i_mulc 3 (f 8) (by decide)
    try replace tz3 : z3.toInt = 3 * (f 8).toInt := by omega
    refine lv_istore_n (lv' := [(1, .int z3), (0, .ref h)]) S.x S.b d_Txp_give_23 rfl hl (by decide) rfl (fun ls hl => ?_)
    refine lv_aload_n S.x S.b d_Txp_give_24 rfl (lv_at hl 1 rfl) ?_
    refine lv_aload_n S.x S.b d_Txp_give_25 rfl (lv_at hl 1 rfl) ?_
    refine px_get S k_Txp hT hw 0 0 2 (v := .ref (r 2)) rfl rfl rfl (by decide) m6_215 d_Txp_give_26 ?_
    refine lv_iload_n S.x S.b d_Txp_give_29 rfl (lv_at hl 0 rfl) ?_
    refine px_iald S hT hw 0 3 (n := 303) (f := (a 2)) rfl (ga_Txp_2 _ _ _ _ _ _ _) (x := z3) (vp_in_iff.mpr (by first | exact oz_a485ce6081 tz3 i4 nc1 | (constructor <;> omega))) d_Txp_give_30 ?_
    refine lv_topi (fun z4 ez4 => ?_)
    have lz4 := Int32.le_toInt z4
    have uz4 := Int32.toInt_lt z4
    have hpc := rt_at hrt (x := z3) (d := (f 8)) (by omega) (by omega) ez4
    refine px_put S k_Txp hT hw 0 0 4 rfl rfl (by decide) m6_217 rfl rfl rfl (Nat.le_of_ble_eq_true rfl) d_Txp_give_31 (w' := wd_Txp cs h r (fun k => if k = 3 then (some hp) else none) (upd f 4 z4) a g) (ps' := [wd_Txp cs h r (fun k => if k = 3 then (some hp) else none) (upd f 4 z4) a g]) rfl rfl (fun H locs hw => ?_)
    refine lv_aload_n S.x S.b d_Txp_give_34 rfl (lv_at hl 1 rfl) ?_
    refine lv_aload_n S.x S.b d_Txp_give_35 rfl (lv_at hl 1 rfl) ?_
    refine px_get S k_Txp hT hw 0 0 6 (v := .int (f 6)) rfl rfl rfl (by decide) m6_219 d_Txp_give_36 ?_
    refine px_put S k_Txp hT hw 0 0 7 rfl rfl (by decide) m6_220 rfl rfl rfl (Nat.le_of_ble_eq_true rfl) d_Txp_give_39 (w' := wd_Txp cs h r (fun k => if k = 3 then (some hp) else none) (upd (upd f 4 z4) 7 (f 6)) a g) (ps' := [wd_Txp cs h r (fun k => if k = 3 then (some hp) else none) (upd (upd f 4 z4) 7 (f 6)) a g]) rfl rfl (fun H locs hw => ?_)
    refine lv_aload_n S.x S.b d_Txp_give_42 rfl (lv_at hl 1 rfl) ?_
    refine lv_aload_n S.x S.b d_Txp_give_43 rfl (lv_at hl 1 rfl) ?_
    refine px_get S k_Txp hT hw 0 0 2 (v := .ref (r 2)) rfl rfl rfl (by decide) m6_215 d_Txp_give_44 ?_
    refine lv_iload_n S.x S.b d_Txp_give_47 rfl (lv_at hl 0 rfl) ?_
    refine lv_iconst (v := 1) S.x S.b d_Txp_give_48 (by decide) ?_
    refine lv_iadd S.x S.b d_Txp_give_49 ?_
    refine lv_topi (fun z5 ez5 => ?_)
    have tz5 : z5.toInt = (z3.toInt + (1 : Int) + 2147483648) % 4294967296 - 2147483648 := by rw [ez5]; exact i_add z3 1
    have lz5 := Int32.le_toInt z5
    have uz5 := Int32.toInt_lt z5
    try replace tz5 : z5.toInt = z3.toInt + (1 : Int) := by omega
    refine px_iald S hT hw 0 3 (n := 303) (f := (a 2)) rfl (ga_Txp_2 _ _ _ _ _ _ _) (x := z5) (vp_in_iff.mpr (by first | exact oz_be54272558 tz5 tz3 i4 nc1 | (constructor <;> omega))) d_Txp_give_50 ?_
    refine lv_topi (fun z6 ez6 => ?_)
    have lz6 := Int32.le_toInt z6
    have uz6 := Int32.toInt_lt z6
    refine px_put S k_Txp hT hw 0 0 6 rfl rfl (by decide) m6_219 rfl rfl rfl (Nat.le_of_ble_eq_true rfl) d_Txp_give_51 (w' := wd_Txp cs h r (fun k => if k = 3 then (some hp) else none) (upd (upd (upd f 4 z4) 6 z6) 7 (f 6)) a g) (ps' := [wd_Txp cs h r (fun k => if k = 3 then (some hp) else none) (upd (upd (upd f 4 z4) 6 z6) 7 (f 6)) a g]) rfl rfl (fun H locs hw => ?_)
    refine lv_aload_n S.x S.b d_Txp_give_54 rfl (lv_at hl 1 rfl) ?_
    refine lv_dup S.x S.b d_Txp_give_55 rfl ?_
    refine px_get S k_Txp hT hw 0 0 10 (v := .int (f 10)) rfl rfl rfl (by decide) m6_223 d_Txp_give_56 ?_
    refine lv_aload_n S.x S.b d_Txp_give_59 rfl (lv_at hl 1 rfl) ?_
    refine px_get S k_Txp hT hw 0 0 2 (v := .ref (r 2)) rfl rfl rfl (by decide) m6_215 d_Txp_give_60 ?_
    refine lv_iload_n S.x S.b d_Txp_give_63 rfl (lv_at hl 0 rfl) ?_
    refine lv_iconst (v := 2) S.x S.b d_Txp_give_64 (by decide) ?_
    refine lv_iadd S.x S.b d_Txp_give_65 ?_
    refine lv_topi (fun z7 ez7 => ?_)
    have tz7 : z7.toInt = (z3.toInt + (2 : Int) + 2147483648) % 4294967296 - 2147483648 := by rw [ez7]; exact i_add z3 2
    have lz7 := Int32.le_toInt z7
    have uz7 := Int32.toInt_lt z7
    try replace tz7 : z7.toInt = z3.toInt + (2 : Int) := by omega
    refine px_iald S hT hw 0 3 (n := 303) (f := (a 2)) rfl (ga_Txp_2 _ _ _ _ _ _ _) (x := z7) (vp_in_iff.mpr (by first | exact oz_e9c1072bd1 tz7 tz3 i4 nc1 | (constructor <;> omega))) d_Txp_give_66 ?_
    refine lv_topi (fun z8 ez8 => ?_)
    have lz8 := Int32.le_toInt z8
    have uz8 := Int32.toInt_lt z8
    refine lv_iadd S.x S.b d_Txp_give_67 ?_
    have lr9 := Int32.le_toInt (f 10)
    have ur9 := Int32.toInt_lt (f 10)
    refine lv_topi (fun z10 ez10 => ?_)
    have tz10 : z10.toInt = ((f 10).toInt + z8.toInt + 2147483648) % 4294967296 - 2147483648 := by rw [ez10]; exact i_add (f 10) z8
    have lz10 := Int32.le_toInt z10
    have uz10 := Int32.toInt_lt z10
    try replace tz10 : z10.toInt = (f 10).toInt + z8.toInt := by omega
    refine px_put S k_Txp hT hw 0 0 10 rfl rfl (by decide) m6_223 rfl rfl rfl (Nat.le_of_ble_eq_true rfl) d_Txp_give_68 (w' := wd_Txp cs h r (fun k => if k = 3 then (some hp) else none) (upd (upd (upd (upd f 4 z4) 6 z6) 7 (f 6)) 10 z10) a g) (ps' := [wd_Txp cs h r (fun k => if k = 3 then (some hp) else none) (upd (upd (upd (upd f 4 z4) 6 z6) 7 (f 6)) 10 z10) a g]) rfl rfl (fun H locs hw => ?_)
    first | exact px_vret S hr hlk hAe hw (Nat.le_of_ble_eq_true rfl) (Nat.le_of_ble_eq_true rfl) (⟨(upd (upd (upd (upd f 4 z4) 6 z6) 7 (f 6)) 10 z10), a, rfl, (show TxOk z4 (f 5) (f 8) (f 9) (f 17) (f 21) (a 2) from ⟨hpc, ⟨i2, i3⟩, ⟨i4, i5⟩, ⟨i6, i7⟩, i8, ⟨i9, i11⟩, i10, hrt⟩), (show (f 9).toInt = (f 9).toInt from rfl), (show (f 17).toInt = (f 17).toInt from rfl), (show (f 21).toInt = (f 21).toInt from rfl), (show (f 15).toInt = (f 15).toInt from rfl), (show (f 20).toInt = (f 20).toInt from rfl)⟩) d_Txp_give_71 | exact px_vret S hr hlk hAe hw (Nat.le_of_ble_eq_true rfl) (Nat.le_of_ble_eq_true rfl) (⟨(upd (upd (upd (upd f 4 z4) 6 z6) 7 (f 6)) 10 z10), a, rfl, (show TxOk z4 (f 5) (f 8) (f 9) (f 17) (f 21) (a 2) from ⟨hpc, ⟨by first | exact i2 | omega, by first | exact i3 | omega⟩, ⟨by first | exact i4 | omega, by first | exact i5 | omega⟩, ⟨by first | exact i6 | omega, by first | exact i7 | omega⟩, by first | exact i8 | omega, ⟨by first | exact i9 | omega, by first | exact i11 | omega⟩, by first | exact i10 | omega, hrt⟩), (show (f 9).toInt = (f 9).toInt from rfl), (show (f 17).toInt = (f 17).toInt from rfl), (show (f 21).toInt = (f 21).toInt from rfl), (show (f 15).toInt = (f 15).toInt from rfl), (show (f 20).toInt = (f 20).toInt from rfl)⟩) d_Txp_give_71
  · have nc1 : ¬ (f 8).toInt ≤ (0 : Int) := mt (i_le (x := (f 8)) (y := 0)).mpr c1
    refine lv_aload_n S.x S.b d_Txp_give_7 rfl (lv_at hl 0 rfl) ?_
    refine lv_dup S.x S.b d_Txp_give_8 rfl ?_
    refine px_get S k_Txp hT hw 0 0 8 (v := .int (f 8)) rfl rfl rfl (by decide) m6_221 d_Txp_give_9 ?_
    refine lv_iconst (v := 1) S.x S.b d_Txp_give_12 (by decide) ?_
    refine lv_isub S.x S.b d_Txp_give_13 ?_
    have lr11 := Int32.le_toInt (f 8)
    have ur11 := Int32.toInt_lt (f 8)
    refine lv_topi (fun z12 ez12 => ?_)
    have tz12 : z12.toInt = ((f 8).toInt - (1 : Int) + 2147483648) % 4294967296 - 2147483648 := by rw [ez12]; exact i_sub (f 8) 1
    have lz12 := Int32.le_toInt z12
    have uz12 := Int32.toInt_lt z12
    try replace tz12 : z12.toInt = (f 8).toInt - (1 : Int) := by omega
    refine px_put S k_Txp hT hw 0 0 8 rfl rfl (by decide) m6_221 rfl rfl rfl (Nat.le_of_ble_eq_true rfl) d_Txp_give_14 (w' := wd_Txp cs h r (fun k => if k = 3 then (some hp) else none) (upd f 8 z12) a g) (ps' := [wd_Txp cs h r (fun k => if k = 3 then (some hp) else none) (upd f 8 z12) a g]) rfl rfl (fun H locs hw => ?_)
    refine lv_iconst (v := 3) S.x S.b d_Txp_give_17 (by decide) ?_
    refine lv_aload_n S.x S.b d_Txp_give_18 rfl (lv_at hl 0 rfl) ?_
    refine px_get S k_Txp hT hw 0 0 8 (v := .int z12) rfl rfl rfl (by decide) m6_221 d_Txp_give_19 ?_
    refine lv_imul S.x S.b d_Txp_give_22 ?_
    refine lv_topi (fun z13 ez13 => ?_)
    have lz13 := Int32.le_toInt z13
    have uz13 := Int32.toInt_lt z13
    have tz13 : -2147483648 ≤ 3 * z12.toInt → 3 * z12.toInt < 2147483648 → z13.toInt = 3 * z12.toInt := by rw [ez13]; exact i_mulc 3 z12 (by decide)
    try replace tz13 : z13.toInt = 3 * z12.toInt := by omega
    refine lv_istore_n (lv' := [(1, .int z13), (0, .ref h)]) S.x S.b d_Txp_give_23 rfl hl (by decide) rfl (fun ls hl => ?_)
    refine lv_aload_n S.x S.b d_Txp_give_24 rfl (lv_at hl 1 rfl) ?_
    refine lv_aload_n S.x S.b d_Txp_give_25 rfl (lv_at hl 1 rfl) ?_
    refine px_get S k_Txp hT hw 0 0 2 (v := .ref (r 2)) rfl rfl rfl (by decide) m6_215 d_Txp_give_26 ?_
    refine lv_iload_n S.x S.b d_Txp_give_29 rfl (lv_at hl 0 rfl) ?_
    refine px_iald S hT hw 0 3 (n := 303) (f := (a 2)) rfl (ga_Txp_2 _ _ _ _ _ _ _) (x := z13) (vp_in_iff.mpr (by first | exact oz_1e53113f2d tz13 tz12 nc1 i5 | (constructor <;> omega))) d_Txp_give_30 ?_
    refine lv_topi (fun z14 ez14 => ?_)
    have lz14 := Int32.le_toInt z14
    have uz14 := Int32.toInt_lt z14
    have hpc := rt_at hrt (x := z13) (d := z12) (by omega) (by omega) ez14
    refine px_put S k_Txp hT hw 0 0 4 rfl rfl (by decide) m6_217 rfl rfl rfl (Nat.le_of_ble_eq_true rfl) d_Txp_give_31 (w' := wd_Txp cs h r (fun k => if k = 3 then (some hp) else none) (upd (upd f 4 z14) 8 z12) a g) (ps' := [wd_Txp cs h r (fun k => if k = 3 then (some hp) else none) (upd (upd f 4 z14) 8 z12) a g]) rfl rfl (fun H locs hw => ?_)
    refine lv_aload_n S.x S.b d_Txp_give_34 rfl (lv_at hl 1 rfl) ?_
    refine lv_aload_n S.x S.b d_Txp_give_35 rfl (lv_at hl 1 rfl) ?_
    refine px_get S k_Txp hT hw 0 0 6 (v := .int (f 6)) rfl rfl rfl (by decide) m6_219 d_Txp_give_36 ?_
    refine px_put S k_Txp hT hw 0 0 7 rfl rfl (by decide) m6_220 rfl rfl rfl (Nat.le_of_ble_eq_true rfl) d_Txp_give_39 (w' := wd_Txp cs h r (fun k => if k = 3 then (some hp) else none) (upd (upd (upd f 4 z14) 7 (f 6)) 8 z12) a g) (ps' := [wd_Txp cs h r (fun k => if k = 3 then (some hp) else none) (upd (upd (upd f 4 z14) 7 (f 6)) 8 z12) a g]) rfl rfl (fun H locs hw => ?_)
    refine lv_aload_n S.x S.b d_Txp_give_42 rfl (lv_at hl 1 rfl) ?_
    refine lv_aload_n S.x S.b d_Txp_give_43 rfl (lv_at hl 1 rfl) ?_
    refine px_get S k_Txp hT hw 0 0 2 (v := .ref (r 2)) rfl rfl rfl (by decide) m6_215 d_Txp_give_44 ?_
    refine lv_iload_n S.x S.b d_Txp_give_47 rfl (lv_at hl 0 rfl) ?_
    refine lv_iconst (v := 1) S.x S.b d_Txp_give_48 (by decide) ?_
    refine lv_iadd S.x S.b d_Txp_give_49 ?_
    refine lv_topi (fun z15 ez15 => ?_)
    have tz15 : z15.toInt = (z13.toInt + (1 : Int) + 2147483648) % 4294967296 - 2147483648 := by rw [ez15]; exact i_add z13 1
    have lz15 := Int32.le_toInt z15
    have uz15 := Int32.toInt_lt z15
    try replace tz15 : z15.toInt = z13.toInt + (1 : Int) := by omega
    refine px_iald S hT hw 0 3 (n := 303) (f := (a 2)) rfl (ga_Txp_2 _ _ _ _ _ _ _) (x := z15) (vp_in_iff.mpr (by first | exact oz_1971fd3488 tz15 tz13 tz12 nc1 i5 | (constructor <;> omega))) d_Txp_give_50 ?_
    refine lv_topi (fun z16 ez16 => ?_)
    have lz16 := Int32.le_toInt z16
    have uz16 := Int32.toInt_lt z16
    refine px_put S k_Txp hT hw 0 0 6 rfl rfl (by decide) m6_219 rfl rfl rfl (Nat.le_of_ble_eq_true rfl) d_Txp_give_51 (w' := wd_Txp cs h r (fun k => if k = 3 then (some hp) else none) (upd (upd (upd (upd f 4 z14) 6 z16) 7 (f 6)) 8 z12) a g) (ps' := [wd_Txp cs h r (fun k => if k = 3 then (some hp) else none) (upd (upd (upd (upd f 4 z14) 6 z16) 7 (f 6)) 8 z12) a g]) rfl rfl (fun H locs hw => ?_)
    refine lv_aload_n S.x S.b d_Txp_give_54 rfl (lv_at hl 1 rfl) ?_
    refine lv_dup S.x S.b d_Txp_give_55 rfl ?_
    refine px_get S k_Txp hT hw 0 0 10 (v := .int (f 10)) rfl rfl rfl (by decide) m6_223 d_Txp_give_56 ?_
    refine lv_aload_n S.x S.b d_Txp_give_59 rfl (lv_at hl 1 rfl) ?_
    refine px_get S k_Txp hT hw 0 0 2 (v := .ref (r 2)) rfl rfl rfl (by decide) m6_215 d_Txp_give_60 ?_
    refine lv_iload_n S.x S.b d_Txp_give_63 rfl (lv_at hl 0 rfl) ?_
    refine lv_iconst (v := 2) S.x S.b d_Txp_give_64 (by decide) ?_
    refine lv_iadd S.x S.b d_Txp_give_65 ?_
    refine lv_topi (fun z17 ez17 => ?_)
    have tz17 : z17.toInt = (z13.toInt + (2 : Int) + 2147483648) % 4294967296 - 2147483648 := by rw [ez17]; exact i_add z13 2
    have lz17 := Int32.le_toInt z17
    have uz17 := Int32.toInt_lt z17
    try replace tz17 : z17.toInt = z13.toInt + (2 : Int) := by omega
    refine px_iald S hT hw 0 3 (n := 303) (f := (a 2)) rfl (ga_Txp_2 _ _ _ _ _ _ _) (x := z17) (vp_in_iff.mpr (by first | exact oz_4e6e9131e1 tz17 tz13 tz12 nc1 i5 | (constructor <;> omega))) d_Txp_give_66 ?_
    refine lv_topi (fun z18 ez18 => ?_)
    have lz18 := Int32.le_toInt z18
    have uz18 := Int32.toInt_lt z18
    refine lv_iadd S.x S.b d_Txp_give_67 ?_
    have lr19 := Int32.le_toInt (f 10)
    have ur19 := Int32.toInt_lt (f 10)
    refine lv_topi (fun z20 ez20 => ?_)
    have tz20 : z20.toInt = ((f 10).toInt + z18.toInt + 2147483648) % 4294967296 - 2147483648 := by rw [ez20]; exact i_add (f 10) z18
    have lz20 := Int32.le_toInt z20
    have uz20 := Int32.toInt_lt z20
    try replace tz20 : z20.toInt = (f 10).toInt + z18.toInt := by omega
    refine px_put S k_Txp hT hw 0 0 10 rfl rfl (by decide) m6_223 rfl rfl rfl (Nat.le_of_ble_eq_true rfl) d_Txp_give_68 (w' := wd_Txp cs h r (fun k => if k = 3 then (some hp) else none) (upd (upd (upd (upd (upd f 4 z14) 6 z16) 7 (f 6)) 8 z12) 10 z20) a g) (ps' := [wd_Txp cs h r (fun k => if k = 3 then (some hp) else none) (upd (upd (upd (upd (upd f 4 z14) 6 z16) 7 (f 6)) 8 z12) 10 z20) a g]) rfl rfl (fun H locs hw => ?_)
    first | exact px_vret S hr hlk hAe hw (Nat.le_of_ble_eq_true rfl) (Nat.le_of_ble_eq_true rfl) (⟨(upd (upd (upd (upd (upd f 4 z14) 6 z16) 7 (f 6)) 8 z12) 10 z20), a, rfl, (show TxOk z14 (f 5) z12 (f 9) (f 17) (f 21) (a 2) from ⟨hpc, ⟨i2, i3⟩, ⟨(oz_45420e1a93 tz12 nc1), (oz_ecd2116815 tz12 i5)⟩, ⟨i6, i7⟩, i8, ⟨i9, i11⟩, i10, hrt⟩), (show (f 9).toInt = (f 9).toInt from rfl), (show (f 17).toInt = (f 17).toInt from rfl), (show (f 21).toInt = (f 21).toInt from rfl), (show (f 15).toInt = (f 15).toInt from rfl), (show (f 20).toInt = (f 20).toInt from rfl)⟩) d_Txp_give_71 | exact px_vret S hr hlk hAe hw (Nat.le_of_ble_eq_true rfl) (Nat.le_of_ble_eq_true rfl) (⟨(upd (upd (upd (upd (upd f 4 z14) 6 z16) 7 (f 6)) 8 z12) 10 z20), a, rfl, (show TxOk z14 (f 5) z12 (f 9) (f 17) (f 21) (a 2) from ⟨hpc, ⟨by first | exact i2 | omega, by first | exact i3 | omega⟩, ⟨by first | exact oz_45420e1a93 tz12 nc1 | omega, by first | exact oz_ecd2116815 tz12 i5 | omega⟩, ⟨by first | exact i6 | omega, by first | exact i7 | omega⟩, by first | exact i8 | omega, ⟨by first | exact i9 | omega, by first | exact i11 | omega⟩, by first | exact i10 | omega, hrt⟩), (show (f 9).toInt = (f 9).toInt from rfl), (show (f 17).toInt = (f 17).toInt from rfl), (show (f 21).toInt = (f 21).toInt from rfl), (show (f 15).toInt = (f 15).toInt from rfl), (show (f 20).toInt = (f 20).toInt from rfl)⟩) d_Txp_give_71
abbrev b_Txp_ask : ByteArray := prog_11_method_25_code
def y_Txp_ask : MethodName := ⟨"HomeSystem$TextProcess", "ask", "(I)V"⟩
theorem d_Txp_ask_0 : decode b_Txp_ask 0 = .ok (.iload_n 1, 1) := by decide +kernel
theorem d_Txp_ask_1 : decode b_Txp_ask 1 = .ok (.bipush 7, 2) := by decide +kernel
theorem d_Txp_ask_3 : decode b_Txp_ask 3 = .ok (.if_icmp .eq 9, 3) := by decide +kernel
theorem d_Txp_ask_6 : decode b_Txp_ask 6 = .ok (.iload_n 1, 1) := by decide +kernel
theorem d_Txp_ask_7 : decode b_Txp_ask 7 = .ok (.bipush 8, 2) := by decide +kernel
theorem d_Txp_ask_9 : decode b_Txp_ask 9 = .ok (.if_icmp .ne 22, 3) := by decide +kernel
theorem d_Txp_ask_12 : decode b_Txp_ask 12 = .ok (.aload_n 0, 1) := by decide +kernel
theorem d_Txp_ask_13 : decode b_Txp_ask 13 = .ok (.aload_n 0, 1) := by decide +kernel
theorem d_Txp_ask_14 : decode b_Txp_ask 14 = .ok (.invokevirtual 119, 3) := by decide +kernel
theorem d_Txp_ask_17 : decode b_Txp_ask 17 = .ok (.putfield 88, 3) := by decide +kernel
theorem d_Txp_ask_20 : decode b_Txp_ask 20 = .ok (.aload_n 0, 1) := by decide +kernel
theorem d_Txp_ask_21 : decode b_Txp_ask 21 = .ok (.aload_n 0, 1) := by decide +kernel
theorem d_Txp_ask_22 : decode b_Txp_ask 22 = .ok (.invokevirtual 119, 3) := by decide +kernel
theorem d_Txp_ask_25 : decode b_Txp_ask 25 = .ok (.putfield 91, 3) := by decide +kernel
theorem d_Txp_ask_28 : decode b_Txp_ask 28 = .ok (.goto 21, 3) := by decide +kernel
theorem d_Txp_ask_31 : decode b_Txp_ask 31 = .ok (.iload_n 1, 1) := by decide +kernel
theorem d_Txp_ask_32 : decode b_Txp_ask 32 = .ok (.iconst 2, 1) := by decide +kernel
theorem d_Txp_ask_33 : decode b_Txp_ask 33 = .ok (.if_icmp .eq 8, 3) := by decide +kernel
theorem d_Txp_ask_36 : decode b_Txp_ask 36 = .ok (.iload_n 1, 1) := by decide +kernel
theorem d_Txp_ask_37 : decode b_Txp_ask 37 = .ok (.iconst 5, 1) := by decide +kernel
theorem d_Txp_ask_38 : decode b_Txp_ask 38 = .ok (.if_icmp .ne 11, 3) := by decide +kernel
theorem d_Txp_ask_41 : decode b_Txp_ask 41 = .ok (.aload_n 0, 1) := by decide +kernel
theorem d_Txp_ask_42 : decode b_Txp_ask 42 = .ok (.aload_n 0, 1) := by decide +kernel
theorem d_Txp_ask_43 : decode b_Txp_ask 43 = .ok (.invokevirtual 119, 3) := by decide +kernel
theorem d_Txp_ask_46 : decode b_Txp_ask 46 = .ok (.putfield 174, 3) := by decide +kernel
theorem d_Txp_ask_49 : decode b_Txp_ask 49 = .ok (.aload_n 0, 1) := by decide +kernel
theorem d_Txp_ask_50 : decode b_Txp_ask 50 = .ok (.aload_n 0, 1) := by decide +kernel
theorem d_Txp_ask_51 : decode b_Txp_ask 51 = .ok (.invokevirtual 119, 3) := by decide +kernel
theorem d_Txp_ask_54 : decode b_Txp_ask 54 = .ok (.putfield 177, 3) := by decide +kernel
theorem d_Txp_ask_57 : decode b_Txp_ask 57 = .ok (.aload_n 0, 1) := by decide +kernel
theorem d_Txp_ask_58 : decode b_Txp_ask 58 = .ok (.iload_n 1, 1) := by decide +kernel
theorem d_Txp_ask_59 : decode b_Txp_ask 59 = .ok (.putfield 180, 3) := by decide +kernel
theorem d_Txp_ask_62 : decode b_Txp_ask 62 = .ok (.aload_n 0, 1) := by decide +kernel
theorem d_Txp_ask_63 : decode b_Txp_ask 63 = .ok (.iconst 1, 1) := by decide +kernel
theorem d_Txp_ask_64 : decode b_Txp_ask 64 = .ok (.putfield 81, 3) := by decide +kernel
theorem d_Txp_ask_67 : decode b_Txp_ask 67 = .ok (.return_, 1) := by decide +kernel
theorem q_Txp_ask : px_y y_Txp_ask 1 := by unfold px_y; decide +kernel
set_option maxHeartbeats 4000000 in
set_option maxRecDepth 100000 in
theorem c_Txp_ask (l : Launch) (D : va_G) (cs : Nat → ClassId) (h : Nat) (r : Nat → Nat) (g : Nat → Nat → Option Nat) (hp : Nat) (f : Nat → Int32) (a : Nat → Nat → Int32) (p0 : Int32)  (hinv0 : TxOk (f 4) (f 5) (f 8) (f 9) (f 17) (f 21) (a 2)) (g0 : (f 21).toInt = 0) (g1 : (f 17).toInt + (f 9).toInt ≤ 99) : MetV l y_Txp_ask b_Txp_ask 2 D cs 1 30 (0) (0) [.ref h, .int p0] [wd_Txp cs h r (fun k => if k = 3 then (some hp) else none) f a g] (fun _ => True) (fun ps => ∃ (f' : Nat → Int32) (a' : Nat → Nat → Int32), (ps = [wd_Txp cs h r (fun k => if k = 3 then (some hp) else none) f' a' g]) ∧ (TxOk (f' 4) (f' 5) (f' 8) (f' 9) (f' 17) (f' 21) (a' 2)) ∧ ((f' 9).toInt = (f 9).toInt) ∧ ((f' 17).toInt = (f 17).toInt) ∧ ((f' 21).toInt = 1) ∧ ((f' 15).toInt = (f 15).toInt) ∧ ((f' 20).toInt = (f 20).toInt)) := by
  refine px_enter (by decide) (Nat.le_of_ble_eq_true rfl) ?_
  intro p e s m below meth c A ls hAe S hr hlk hnm hA hT hX hw hl
  have hl : lv_has ls 2 [(0, .ref h), (1, .int p0)] := hl
  have lp0 := Int32.le_toInt p0
  have up0 := Int32.toInt_lt p0
  have cst1 : (1 : Int32).toInt = 1 := rfl
  have cst2 : (2 : Int32).toInt = 2 := rfl
  have cst5 : (5 : Int32).toInt = 5 := rfl
  have cst7 : (7 : Int32).toInt = 7 := rfl
  have cst8 : (8 : Int32).toInt = 8 := rfl
  obtain ⟨lk, ⟨i2, i3⟩, ⟨i4, i5⟩, ⟨i6, i7⟩, i8, ⟨i9, i11⟩, i10, hrt⟩ := hinv0
  refine lv_iload_n S.x S.b d_Txp_ask_0 rfl (lv_at hl 1 rfl) ?_
  refine lv_bipush (v := 7) S.x S.b d_Txp_ask_1 (by decide) ?_
  refine lv_icmp_eq (tgt := 12) S.x S.b d_Txp_ask_3 (by decide) (fun c1 => ?_) (fun c1 => ?_)
  · have nc1 : p0.toInt = (7 : Int) := (i_eq (x := p0) (y := 7)).mp c1
    refine lv_aload_n S.x S.b d_Txp_ask_12 rfl (lv_at hl 0 rfl) ?_
    refine lv_aload_n S.x S.b d_Txp_ask_13 rfl (lv_at hl 0 rfl) ?_
    first | refine px_calli (pr := []) (px_runV (As := []) (rest := [.ref h]) S (c_Txp_pop l D cs h r g hp f a   (show TxOk (f 4) (f 5) (f 8) (f 9) (f 17) (f 21) (a 2) from ⟨lk, ⟨i2, i3⟩, ⟨i4, i5⟩, ⟨i6, i7⟩, i8, ⟨i9, i11⟩, i10, hrt⟩) _) hT (pr := []) (pcs := [wd_Txp cs h r (fun k => if k = 3 then (some hp) else none) f a g]) hw px_X.tt (px_recv hT hw 0 0 rfl rfl rfl) m9_15 m9_12 m9_14 ms_7_0 m1_35 q_Txp_pop ⟨Nat.le_of_ble_eq_true rfl, Nat.le_of_ble_eq_true rfl⟩ hl.1 rfl (Nat.le_of_ble_eq_true rfl) d_Txp_ask_14 ⟨Nat.le_of_ble_eq_true rfl, Nat.le_of_ble_eq_true rfl⟩) hw hA (fun v5 p4 H locs hp4 hw => ?_) | refine px_calli (pr := []) (px_runV (As := []) (rest := [.ref h]) S (c_Txp_pop l D cs h r g hp f a   (show TxOk (f 4) (f 5) (f 8) (f 9) (f 17) (f 21) (a 2) from ⟨lk, ⟨by first | exact i2 | omega, by first | exact i3 | omega⟩, ⟨by first | exact i4 | omega, by first | exact i5 | omega⟩, ⟨by first | exact i6 | omega, by first | exact i7 | omega⟩, by first | exact i8 | omega, ⟨by first | exact i9 | omega, by first | exact i11 | omega⟩, by first | exact i10 | omega, hrt⟩) _) hT (pr := []) (pcs := [wd_Txp cs h r (fun k => if k = 3 then (some hp) else none) f a g]) hw px_X.tt (px_recv hT hw 0 0 rfl rfl rfl) m9_15 m9_12 m9_14 ms_7_0 m1_35 q_Txp_pop ⟨Nat.le_of_ble_eq_true rfl, Nat.le_of_ble_eq_true rfl⟩ hl.1 rfl (Nat.le_of_ble_eq_true rfl) d_Txp_ask_14 ⟨Nat.le_of_ble_eq_true rfl, Nat.le_of_ble_eq_true rfl⟩) hw hA (fun v5 p4 H locs hp4 hw => ?_)
    obtain ⟨f2, a3, rfl, h12, e6, e7, e8, e9, e10, e11⟩ := hp4
    obtain ⟨lk, ⟨i2, i3⟩, ⟨i4, i5⟩, ⟨i6, i7⟩, i8, ⟨i9, i11⟩, i10, hrt⟩ := h12
    have e6 : (f2 9).toInt = (f 9).toInt := e6
    have e7 : (f2 17).toInt = (f 17).toInt := e7
    have e8 : (f2 21).toInt = (f 21).toInt := e8
    have e9 : (f2 15).toInt = (f 15).toInt := e9
    have e10 : (f2 20).toInt = (f 20).toInt := e10
    have e11 : (f2 4).toInt = (f 4).toInt := e11
    have lv5 := Int32.le_toInt v5
    have uv5 := Int32.toInt_lt v5
    refine px_put S k_Txp hT hw 0 0 14 rfl rfl (by decide) m6_227 rfl rfl rfl (Nat.le_of_ble_eq_true rfl) d_Txp_ask_17 (w' := wd_Txp cs h r (fun k => if k = 3 then (some hp) else none) (upd f2 14 v5) a3 g) (ps' := [wd_Txp cs h r (fun k => if k = 3 then (some hp) else none) (upd f2 14 v5) a3 g]) rfl rfl (fun H locs hw => ?_)
    refine lv_aload_n S.x S.b d_Txp_ask_20 rfl (lv_at hl 0 rfl) ?_
    refine lv_aload_n S.x S.b d_Txp_ask_21 rfl (lv_at hl 0 rfl) ?_
    first | refine px_calli (pr := []) (px_runV (As := []) (rest := [.ref h]) S (c_Txp_pop l D cs h r g hp (upd f2 14 v5) a3   (show TxOk (f2 4) (f2 5) (f2 8) (f2 9) (f2 17) (f2 21) (a3 2) from ⟨lk, ⟨i2, i3⟩, ⟨i4, i5⟩, ⟨i6, i7⟩, i8, ⟨i9, i11⟩, i10, hrt⟩) _) hT (pr := []) (pcs := [wd_Txp cs h r (fun k => if k = 3 then (some hp) else none) (upd f2 14 v5) a3 g]) hw px_X.tt (px_recv hT hw 0 0 rfl rfl rfl) m9_15 m9_12 m9_14 ms_7_0 m1_35 q_Txp_pop ⟨Nat.le_of_ble_eq_true rfl, Nat.le_of_ble_eq_true rfl⟩ hl.1 rfl (Nat.le_of_ble_eq_true rfl) d_Txp_ask_22 ⟨Nat.le_of_ble_eq_true rfl, Nat.le_of_ble_eq_true rfl⟩) hw hA (fun v16 p15 H locs hp15 hw => ?_) | refine px_calli (pr := []) (px_runV (As := []) (rest := [.ref h]) S (c_Txp_pop l D cs h r g hp (upd f2 14 v5) a3   (show TxOk (f2 4) (f2 5) (f2 8) (f2 9) (f2 17) (f2 21) (a3 2) from ⟨lk, ⟨by first | exact i2 | omega, by first | exact i3 | omega⟩, ⟨by first | exact i4 | omega, by first | exact i5 | omega⟩, ⟨by first | exact i6 | omega, by first | exact i7 | omega⟩, by first | exact i8 | omega, ⟨by first | exact i9 | omega, by first | exact i11 | omega⟩, by first | exact i10 | omega, hrt⟩) _) hT (pr := []) (pcs := [wd_Txp cs h r (fun k => if k = 3 then (some hp) else none) (upd f2 14 v5) a3 g]) hw px_X.tt (px_recv hT hw 0 0 rfl rfl rfl) m9_15 m9_12 m9_14 ms_7_0 m1_35 q_Txp_pop ⟨Nat.le_of_ble_eq_true rfl, Nat.le_of_ble_eq_true rfl⟩ hl.1 rfl (Nat.le_of_ble_eq_true rfl) d_Txp_ask_22 ⟨Nat.le_of_ble_eq_true rfl, Nat.le_of_ble_eq_true rfl⟩) hw hA (fun v16 p15 H locs hp15 hw => ?_)
    obtain ⟨f13, a14, rfl, h23, e17, e18, e19, e20, e21, e22⟩ := hp15
    obtain ⟨lk, ⟨i2, i3⟩, ⟨i4, i5⟩, ⟨i6, i7⟩, i8, ⟨i9, i11⟩, i10, hrt⟩ := h23
    have e17 : (f13 9).toInt = (f2 9).toInt := e17
    have e18 : (f13 17).toInt = (f2 17).toInt := e18
    have e19 : (f13 21).toInt = (f2 21).toInt := e19
    have e20 : (f13 15).toInt = (f2 15).toInt := e20
    have e21 : (f13 20).toInt = (f2 20).toInt := e21
    have e22 : (f13 4).toInt = (f2 4).toInt := e22
    have lv16 := Int32.le_toInt v16
    have uv16 := Int32.toInt_lt v16
    refine px_put S k_Txp hT hw 0 0 13 rfl rfl (by decide) m6_226 rfl rfl rfl (Nat.le_of_ble_eq_true rfl) d_Txp_ask_25 (w' := wd_Txp cs h r (fun k => if k = 3 then (some hp) else none) (upd f13 13 v16) a14 g) (ps' := [wd_Txp cs h r (fun k => if k = 3 then (some hp) else none) (upd f13 13 v16) a14 g]) rfl rfl (fun H locs hw => ?_)
    refine lv_goto (tgt := 49) S.x S.b d_Txp_ask_28 (by decide) ?_
    refine lv_aload_n S.x S.b d_Txp_ask_49 rfl (lv_at hl 0 rfl) ?_
    refine lv_aload_n S.x S.b d_Txp_ask_50 rfl (lv_at hl 0 rfl) ?_
    first | refine px_calli (pr := []) (px_runV (As := []) (rest := [.ref h]) S (c_Txp_pop l D cs h r g hp (upd f13 13 v16) a14   (show TxOk (f13 4) (f13 5) (f13 8) (f13 9) (f13 17) (f13 21) (a14 2) from ⟨lk, ⟨i2, i3⟩, ⟨i4, i5⟩, ⟨i6, i7⟩, i8, ⟨i9, i11⟩, i10, hrt⟩) _) hT (pr := []) (pcs := [wd_Txp cs h r (fun k => if k = 3 then (some hp) else none) (upd f13 13 v16) a14 g]) hw px_X.tt (px_recv hT hw 0 0 rfl rfl rfl) m9_15 m9_12 m9_14 ms_7_0 m1_35 q_Txp_pop ⟨Nat.le_of_ble_eq_true rfl, Nat.le_of_ble_eq_true rfl⟩ hl.1 rfl (Nat.le_of_ble_eq_true rfl) d_Txp_ask_51 ⟨Nat.le_of_ble_eq_true rfl, Nat.le_of_ble_eq_true rfl⟩) hw hA (fun v27 p26 H locs hp26 hw => ?_) | refine px_calli (pr := []) (px_runV (As := []) (rest := [.ref h]) S (c_Txp_pop l D cs h r g hp (upd f13 13 v16) a14   (show TxOk (f13 4) (f13 5) (f13 8) (f13 9) (f13 17) (f13 21) (a14 2) from ⟨lk, ⟨by first | exact i2 | omega, by first | exact i3 | omega⟩, ⟨by first | exact i4 | omega, by first | exact i5 | omega⟩, ⟨by first | exact i6 | omega, by first | exact i7 | omega⟩, by first | exact i8 | omega, ⟨by first | exact i9 | omega, by first | exact i11 | omega⟩, by first | exact i10 | omega, hrt⟩) _) hT (pr := []) (pcs := [wd_Txp cs h r (fun k => if k = 3 then (some hp) else none) (upd f13 13 v16) a14 g]) hw px_X.tt (px_recv hT hw 0 0 rfl rfl rfl) m9_15 m9_12 m9_14 ms_7_0 m1_35 q_Txp_pop ⟨Nat.le_of_ble_eq_true rfl, Nat.le_of_ble_eq_true rfl⟩ hl.1 rfl (Nat.le_of_ble_eq_true rfl) d_Txp_ask_51 ⟨Nat.le_of_ble_eq_true rfl, Nat.le_of_ble_eq_true rfl⟩) hw hA (fun v27 p26 H locs hp26 hw => ?_)
    obtain ⟨f24, a25, rfl, h34, e28, e29, e30, e31, e32, e33⟩ := hp26
    obtain ⟨lk, ⟨i2, i3⟩, ⟨i4, i5⟩, ⟨i6, i7⟩, i8, ⟨i9, i11⟩, i10, hrt⟩ := h34
    have e28 : (f24 9).toInt = (f13 9).toInt := e28
    have e29 : (f24 17).toInt = (f13 17).toInt := e29
    have e30 : (f24 21).toInt = (f13 21).toInt := e30
    have e31 : (f24 15).toInt = (f13 15).toInt := e31
    have e32 : (f24 20).toInt = (f13 20).toInt := e32
    have e33 : (f24 4).toInt = (f13 4).toInt := e33
    have lv27 := Int32.le_toInt v27
    have uv27 := Int32.toInt_lt v27
    refine px_putS S k_Txp hT hw 0 0 23 rfl rfl (by decide) m6_162 m6_163 rfl rfl rfl (Nat.le_of_ble_eq_true rfl) d_Txp_ask_54 (w' := wd_Txp cs h r (fun k => if k = 3 then (some hp) else none) (upd f24 23 v27) a25 g) (ps' := [wd_Txp cs h r (fun k => if k = 3 then (some hp) else none) (upd f24 23 v27) a25 g]) rfl rfl (fun H locs hw => ?_)
    refine lv_aload_n S.x S.b d_Txp_ask_57 rfl (lv_at hl 0 rfl) ?_
    refine lv_iload_n S.x S.b d_Txp_ask_58 rfl (lv_at hl 1 rfl) ?_
    refine px_putS S k_Txp hT hw 0 0 22 rfl rfl (by decide) m6_159 m6_160 rfl rfl rfl (Nat.le_of_ble_eq_true rfl) d_Txp_ask_59 (w' := wd_Txp cs h r (fun k => if k = 3 then (some hp) else none) (upd (upd f24 22 p0) 23 v27) a25 g) (ps' := [wd_Txp cs h r (fun k => if k = 3 then (some hp) else none) (upd (upd f24 22 p0) 23 v27) a25 g]) rfl rfl (fun H locs hw => ?_)
    refine lv_aload_n S.x S.b d_Txp_ask_62 rfl (lv_at hl 0 rfl) ?_
    refine lv_iconst (v := 1) S.x S.b d_Txp_ask_63 (by decide) ?_
    refine px_putS S k_Txp hT hw 0 0 21 rfl rfl (by decide) m6_153 m6_154 rfl rfl rfl (Nat.le_of_ble_eq_true rfl) d_Txp_ask_64 (w' := wd_Txp cs h r (fun k => if k = 3 then (some hp) else none) (upd (upd (upd f24 21 1) 22 p0) 23 v27) a25 g) (ps' := [wd_Txp cs h r (fun k => if k = 3 then (some hp) else none) (upd (upd (upd f24 21 1) 22 p0) 23 v27) a25 g]) rfl rfl (fun H locs hw => ?_)
    first | exact px_vret S hr hlk hAe hw (Nat.le_of_ble_eq_true rfl) (Nat.le_of_ble_eq_true rfl) (⟨(upd (upd (upd f24 21 1) 22 p0) 23 v27), a25, rfl, (show TxOk (f24 4) (f24 5) (f24 8) (f24 9) (f24 17) 1 (a25 2) from ⟨lk, ⟨i2, i3⟩, ⟨i4, i5⟩, ⟨i6, i7⟩, i8, ⟨by omega, by omega⟩, by omega, hrt⟩), (show (f24 9).toInt = (f 9).toInt from (oz_e13fc83238 e6 e28 e17)), (show (f24 17).toInt = (f 17).toInt from (oz_e13fc83238 e7 e29 e18)), (show (1 : Int) = 1 from by first | decide | omega), (show (f24 15).toInt = (f 15).toInt from (oz_e13fc83238 e9 e31 e20)), (show (f24 20).toInt = (f 20).toInt from (oz_e13fc83238 e10 e32 e21))⟩) d_Txp_ask_67 | exact px_vret S hr hlk hAe hw (Nat.le_of_ble_eq_true rfl) (Nat.le_of_ble_eq_true rfl) (⟨(upd (upd (upd f24 21 1) 22 p0) 23 v27), a25, rfl, (show TxOk (f24 4) (f24 5) (f24 8) (f24 9) (f24 17) 1 (a25 2) from ⟨lk, ⟨by first | exact i2 | omega, by first | exact i3 | omega⟩, ⟨by first | exact i4 | omega, by first | exact i5 | omega⟩, ⟨by first | exact i6 | omega, by first | exact i7 | omega⟩, by first | exact i8 | omega, ⟨by omega, by omega⟩, by omega, hrt⟩), (show (f24 9).toInt = (f 9).toInt from by first | exact oz_e13fc83238 e6 e28 e17 | omega), (show (f24 17).toInt = (f 17).toInt from by first | exact oz_e13fc83238 e7 e29 e18 | omega), (show (1 : Int) = 1 from by first | decide | omega), (show (f24 15).toInt = (f 15).toInt from by first | exact oz_e13fc83238 e9 e31 e20 | omega), (show (f24 20).toInt = (f 20).toInt from by first | exact oz_e13fc83238 e10 e32 e21 | omega)⟩) d_Txp_ask_67
  · have nc1 : ¬ p0.toInt = (7 : Int) := mt (i_eq (x := p0) (y := 7)).mpr c1
    refine lv_iload_n S.x S.b d_Txp_ask_6 rfl (lv_at hl 1 rfl) ?_
    refine lv_bipush (v := 8) S.x S.b d_Txp_ask_7 (by decide) ?_
    refine lv_icmp_ne (tgt := 31) S.x S.b d_Txp_ask_9 (by decide) (fun c35 => ?_) (fun c35 => ?_)
    · have nc35 : ¬ p0.toInt = (8 : Int) := mt (i_eq (x := p0) (y := 8)).mpr c35
      refine lv_iload_n S.x S.b d_Txp_ask_31 rfl (lv_at hl 1 rfl) ?_
      refine lv_iconst (v := 2) S.x S.b d_Txp_ask_32 (by decide) ?_
      refine lv_icmp_eq (tgt := 41) S.x S.b d_Txp_ask_33 (by decide) (fun c36 => ?_) (fun c36 => ?_)
      · have nc36 : p0.toInt = (2 : Int) := (i_eq (x := p0) (y := 2)).mp c36
        refine lv_aload_n S.x S.b d_Txp_ask_41 rfl (lv_at hl 0 rfl) ?_
        refine lv_aload_n S.x S.b d_Txp_ask_42 rfl (lv_at hl 0 rfl) ?_
        first | refine px_calli (pr := []) (px_runV (As := []) (rest := [.ref h]) S (c_Txp_pop l D cs h r g hp f a   (show TxOk (f 4) (f 5) (f 8) (f 9) (f 17) (f 21) (a 2) from ⟨lk, ⟨i2, i3⟩, ⟨i4, i5⟩, ⟨i6, i7⟩, i8, ⟨i9, i11⟩, i10, hrt⟩) _) hT (pr := []) (pcs := [wd_Txp cs h r (fun k => if k = 3 then (some hp) else none) f a g]) hw px_X.tt (px_recv hT hw 0 0 rfl rfl rfl) m9_15 m9_12 m9_14 ms_7_0 m1_35 q_Txp_pop ⟨Nat.le_of_ble_eq_true rfl, Nat.le_of_ble_eq_true rfl⟩ hl.1 rfl (Nat.le_of_ble_eq_true rfl) d_Txp_ask_43 ⟨Nat.le_of_ble_eq_true rfl, Nat.le_of_ble_eq_true rfl⟩) hw hA (fun v40 p39 H locs hp39 hw => ?_) | refine px_calli (pr := []) (px_runV (As := []) (rest := [.ref h]) S (c_Txp_pop l D cs h r g hp f a   (show TxOk (f 4) (f 5) (f 8) (f 9) (f 17) (f 21) (a 2) from ⟨lk, ⟨by first | exact i2 | omega, by first | exact i3 | omega⟩, ⟨by first | exact i4 | omega, by first | exact i5 | omega⟩, ⟨by first | exact i6 | omega, by first | exact i7 | omega⟩, by first | exact i8 | omega, ⟨by first | exact i9 | omega, by first | exact i11 | omega⟩, by first | exact i10 | omega, hrt⟩) _) hT (pr := []) (pcs := [wd_Txp cs h r (fun k => if k = 3 then (some hp) else none) f a g]) hw px_X.tt (px_recv hT hw 0 0 rfl rfl rfl) m9_15 m9_12 m9_14 ms_7_0 m1_35 q_Txp_pop ⟨Nat.le_of_ble_eq_true rfl, Nat.le_of_ble_eq_true rfl⟩ hl.1 rfl (Nat.le_of_ble_eq_true rfl) d_Txp_ask_43 ⟨Nat.le_of_ble_eq_true rfl, Nat.le_of_ble_eq_true rfl⟩) hw hA (fun v40 p39 H locs hp39 hw => ?_)
        obtain ⟨f37, a38, rfl, h47, e41, e42, e43, e44, e45, e46⟩ := hp39
        obtain ⟨lk, ⟨i2, i3⟩, ⟨i4, i5⟩, ⟨i6, i7⟩, i8, ⟨i9, i11⟩, i10, hrt⟩ := h47
        have e41 : (f37 9).toInt = (f 9).toInt := e41
        have e42 : (f37 17).toInt = (f 17).toInt := e42
        have e43 : (f37 21).toInt = (f 21).toInt := e43
        have e44 : (f37 15).toInt = (f 15).toInt := e44
        have e45 : (f37 20).toInt = (f 20).toInt := e45
        have e46 : (f37 4).toInt = (f 4).toInt := e46
        have lv40 := Int32.le_toInt v40
        have uv40 := Int32.toInt_lt v40
        refine px_putS S k_Txp hT hw 0 0 24 rfl rfl (by decide) m6_167 m6_168 rfl rfl rfl (Nat.le_of_ble_eq_true rfl) d_Txp_ask_46 (w' := wd_Txp cs h r (fun k => if k = 3 then (some hp) else none) (upd f37 24 v40) a38 g) (ps' := [wd_Txp cs h r (fun k => if k = 3 then (some hp) else none) (upd f37 24 v40) a38 g]) rfl rfl (fun H locs hw => ?_)
        refine lv_aload_n S.x S.b d_Txp_ask_49 rfl (lv_at hl 0 rfl) ?_
        refine lv_aload_n S.x S.b d_Txp_ask_50 rfl (lv_at hl 0 rfl) ?_
        first | refine px_calli (pr := []) (px_runV (As := []) (rest := [.ref h]) S (c_Txp_pop l D cs h r g hp (upd f37 24 v40) a38   (show TxOk (f37 4) (f37 5) (f37 8) (f37 9) (f37 17) (f37 21) (a38 2) from ⟨lk, ⟨i2, i3⟩, ⟨i4, i5⟩, ⟨i6, i7⟩, i8, ⟨i9, i11⟩, i10, hrt⟩) _) hT (pr := []) (pcs := [wd_Txp cs h r (fun k => if k = 3 then (some hp) else none) (upd f37 24 v40) a38 g]) hw px_X.tt (px_recv hT hw 0 0 rfl rfl rfl) m9_15 m9_12 m9_14 ms_7_0 m1_35 q_Txp_pop ⟨Nat.le_of_ble_eq_true rfl, Nat.le_of_ble_eq_true rfl⟩ hl.1 rfl (Nat.le_of_ble_eq_true rfl) d_Txp_ask_51 ⟨Nat.le_of_ble_eq_true rfl, Nat.le_of_ble_eq_true rfl⟩) hw hA (fun v51 p50 H locs hp50 hw => ?_) | refine px_calli (pr := []) (px_runV (As := []) (rest := [.ref h]) S (c_Txp_pop l D cs h r g hp (upd f37 24 v40) a38   (show TxOk (f37 4) (f37 5) (f37 8) (f37 9) (f37 17) (f37 21) (a38 2) from ⟨lk, ⟨by first | exact i2 | omega, by first | exact i3 | omega⟩, ⟨by first | exact i4 | omega, by first | exact i5 | omega⟩, ⟨by first | exact i6 | omega, by first | exact i7 | omega⟩, by first | exact i8 | omega, ⟨by first | exact i9 | omega, by first | exact i11 | omega⟩, by first | exact i10 | omega, hrt⟩) _) hT (pr := []) (pcs := [wd_Txp cs h r (fun k => if k = 3 then (some hp) else none) (upd f37 24 v40) a38 g]) hw px_X.tt (px_recv hT hw 0 0 rfl rfl rfl) m9_15 m9_12 m9_14 ms_7_0 m1_35 q_Txp_pop ⟨Nat.le_of_ble_eq_true rfl, Nat.le_of_ble_eq_true rfl⟩ hl.1 rfl (Nat.le_of_ble_eq_true rfl) d_Txp_ask_51 ⟨Nat.le_of_ble_eq_true rfl, Nat.le_of_ble_eq_true rfl⟩) hw hA (fun v51 p50 H locs hp50 hw => ?_)
        obtain ⟨f48, a49, rfl, h58, e52, e53, e54, e55, e56, e57⟩ := hp50
        obtain ⟨lk, ⟨i2, i3⟩, ⟨i4, i5⟩, ⟨i6, i7⟩, i8, ⟨i9, i11⟩, i10, hrt⟩ := h58
        have e52 : (f48 9).toInt = (f37 9).toInt := e52
        have e53 : (f48 17).toInt = (f37 17).toInt := e53
        have e54 : (f48 21).toInt = (f37 21).toInt := e54
        have e55 : (f48 15).toInt = (f37 15).toInt := e55
        have e56 : (f48 20).toInt = (f37 20).toInt := e56
        have e57 : (f48 4).toInt = (f37 4).toInt := e57
        have lv51 := Int32.le_toInt v51
        have uv51 := Int32.toInt_lt v51
        refine px_putS S k_Txp hT hw 0 0 23 rfl rfl (by decide) m6_162 m6_163 rfl rfl rfl (Nat.le_of_ble_eq_true rfl) d_Txp_ask_54 (w' := wd_Txp cs h r (fun k => if k = 3 then (some hp) else none) (upd f48 23 v51) a49 g) (ps' := [wd_Txp cs h r (fun k => if k = 3 then (some hp) else none) (upd f48 23 v51) a49 g]) rfl rfl (fun H locs hw => ?_)
        refine lv_aload_n S.x S.b d_Txp_ask_57 rfl (lv_at hl 0 rfl) ?_
        refine lv_iload_n S.x S.b d_Txp_ask_58 rfl (lv_at hl 1 rfl) ?_
        refine px_putS S k_Txp hT hw 0 0 22 rfl rfl (by decide) m6_159 m6_160 rfl rfl rfl (Nat.le_of_ble_eq_true rfl) d_Txp_ask_59 (w' := wd_Txp cs h r (fun k => if k = 3 then (some hp) else none) (upd (upd f48 22 p0) 23 v51) a49 g) (ps' := [wd_Txp cs h r (fun k => if k = 3 then (some hp) else none) (upd (upd f48 22 p0) 23 v51) a49 g]) rfl rfl (fun H locs hw => ?_)
        refine lv_aload_n S.x S.b d_Txp_ask_62 rfl (lv_at hl 0 rfl) ?_
        refine lv_iconst (v := 1) S.x S.b d_Txp_ask_63 (by decide) ?_
        refine px_putS S k_Txp hT hw 0 0 21 rfl rfl (by decide) m6_153 m6_154 rfl rfl rfl (Nat.le_of_ble_eq_true rfl) d_Txp_ask_64 (w' := wd_Txp cs h r (fun k => if k = 3 then (some hp) else none) (upd (upd (upd f48 21 1) 22 p0) 23 v51) a49 g) (ps' := [wd_Txp cs h r (fun k => if k = 3 then (some hp) else none) (upd (upd (upd f48 21 1) 22 p0) 23 v51) a49 g]) rfl rfl (fun H locs hw => ?_)
        first | exact px_vret S hr hlk hAe hw (Nat.le_of_ble_eq_true rfl) (Nat.le_of_ble_eq_true rfl) (⟨(upd (upd (upd f48 21 1) 22 p0) 23 v51), a49, rfl, (show TxOk (f48 4) (f48 5) (f48 8) (f48 9) (f48 17) 1 (a49 2) from ⟨lk, ⟨i2, i3⟩, ⟨i4, i5⟩, ⟨i6, i7⟩, i8, ⟨by omega, by omega⟩, by omega, hrt⟩), (show (f48 9).toInt = (f 9).toInt from (oz_1687f4cc65 e41 e52)), (show (f48 17).toInt = (f 17).toInt from (oz_1687f4cc65 e42 e53)), (show (1 : Int) = 1 from by first | decide | omega), (show (f48 15).toInt = (f 15).toInt from (oz_1687f4cc65 e44 e55)), (show (f48 20).toInt = (f 20).toInt from (oz_1687f4cc65 e45 e56))⟩) d_Txp_ask_67 | exact px_vret S hr hlk hAe hw (Nat.le_of_ble_eq_true rfl) (Nat.le_of_ble_eq_true rfl) (⟨(upd (upd (upd f48 21 1) 22 p0) 23 v51), a49, rfl, (show TxOk (f48 4) (f48 5) (f48 8) (f48 9) (f48 17) 1 (a49 2) from ⟨lk, ⟨by first | exact i2 | omega, by first | exact i3 | omega⟩, ⟨by first | exact i4 | omega, by first | exact i5 | omega⟩, ⟨by first | exact i6 | omega, by first | exact i7 | omega⟩, by first | exact i8 | omega, ⟨by omega, by omega⟩, by omega, hrt⟩), (show (f48 9).toInt = (f 9).toInt from by first | exact oz_1687f4cc65 e41 e52 | omega), (show (f48 17).toInt = (f 17).toInt from by first | exact oz_1687f4cc65 e42 e53 | omega), (show (1 : Int) = 1 from by first | decide | omega), (show (f48 15).toInt = (f 15).toInt from by first | exact oz_1687f4cc65 e44 e55 | omega), (show (f48 20).toInt = (f 20).toInt from by first | exact oz_1687f4cc65 e45 e56 | omega)⟩) d_Txp_ask_67
      · have nc36 : ¬ p0.toInt = (2 : Int) := mt (i_eq (x := p0) (y := 2)).mpr c36
        refine lv_iload_n S.x S.b d_Txp_ask_36 rfl (lv_at hl 1 rfl) ?_
        refine lv_iconst (v := 5) S.x S.b d_Txp_ask_37 (by decide) ?_
        refine lv_icmp_ne (tgt := 49) S.x S.b d_Txp_ask_38 (by decide) (fun c59 => ?_) (fun c59 => ?_)
        · have nc59 : ¬ p0.toInt = (5 : Int) := mt (i_eq (x := p0) (y := 5)).mpr c59
          refine lv_aload_n S.x S.b d_Txp_ask_49 rfl (lv_at hl 0 rfl) ?_
          refine lv_aload_n S.x S.b d_Txp_ask_50 rfl (lv_at hl 0 rfl) ?_
          first | refine px_calli (pr := []) (px_runV (As := []) (rest := [.ref h]) S (c_Txp_pop l D cs h r g hp f a   (show TxOk (f 4) (f 5) (f 8) (f 9) (f 17) (f 21) (a 2) from ⟨lk, ⟨i2, i3⟩, ⟨i4, i5⟩, ⟨i6, i7⟩, i8, ⟨i9, i11⟩, i10, hrt⟩) _) hT (pr := []) (pcs := [wd_Txp cs h r (fun k => if k = 3 then (some hp) else none) f a g]) hw px_X.tt (px_recv hT hw 0 0 rfl rfl rfl) m9_15 m9_12 m9_14 ms_7_0 m1_35 q_Txp_pop ⟨Nat.le_of_ble_eq_true rfl, Nat.le_of_ble_eq_true rfl⟩ hl.1 rfl (Nat.le_of_ble_eq_true rfl) d_Txp_ask_51 ⟨Nat.le_of_ble_eq_true rfl, Nat.le_of_ble_eq_true rfl⟩) hw hA (fun v63 p62 H locs hp62 hw => ?_) | refine px_calli (pr := []) (px_runV (As := []) (rest := [.ref h]) S (c_Txp_pop l D cs h r g hp f a   (show TxOk (f 4) (f 5) (f 8) (f 9) (f 17) (f 21) (a 2) from ⟨lk, ⟨by first | exact i2 | omega, by first | exact i3 | omega⟩, ⟨by first | exact i4 | omega, by first | exact i5 | omega⟩, ⟨by first | exact i6 | omega, by first | exact i7 | omega⟩, by first | exact i8 | omega, ⟨by first | exact i9 | omega, by first | exact i11 | omega⟩, by first | exact i10 | omega, hrt⟩) _) hT (pr := []) (pcs := [wd_Txp cs h r (fun k => if k = 3 then (some hp) else none) f a g]) hw px_X.tt (px_recv hT hw 0 0 rfl rfl rfl) m9_15 m9_12 m9_14 ms_7_0 m1_35 q_Txp_pop ⟨Nat.le_of_ble_eq_true rfl, Nat.le_of_ble_eq_true rfl⟩ hl.1 rfl (Nat.le_of_ble_eq_true rfl) d_Txp_ask_51 ⟨Nat.le_of_ble_eq_true rfl, Nat.le_of_ble_eq_true rfl⟩) hw hA (fun v63 p62 H locs hp62 hw => ?_)
          obtain ⟨f60, a61, rfl, h70, e64, e65, e66, e67, e68, e69⟩ := hp62
          obtain ⟨lk, ⟨i2, i3⟩, ⟨i4, i5⟩, ⟨i6, i7⟩, i8, ⟨i9, i11⟩, i10, hrt⟩ := h70
          have e64 : (f60 9).toInt = (f 9).toInt := e64
          have e65 : (f60 17).toInt = (f 17).toInt := e65
          have e66 : (f60 21).toInt = (f 21).toInt := e66
          have e67 : (f60 15).toInt = (f 15).toInt := e67
          have e68 : (f60 20).toInt = (f 20).toInt := e68
          have e69 : (f60 4).toInt = (f 4).toInt := e69
          have lv63 := Int32.le_toInt v63
          have uv63 := Int32.toInt_lt v63
          refine px_putS S k_Txp hT hw 0 0 23 rfl rfl (by decide) m6_162 m6_163 rfl rfl rfl (Nat.le_of_ble_eq_true rfl) d_Txp_ask_54 (w' := wd_Txp cs h r (fun k => if k = 3 then (some hp) else none) (upd f60 23 v63) a61 g) (ps' := [wd_Txp cs h r (fun k => if k = 3 then (some hp) else none) (upd f60 23 v63) a61 g]) rfl rfl (fun H locs hw => ?_)
          refine lv_aload_n S.x S.b d_Txp_ask_57 rfl (lv_at hl 0 rfl) ?_
          refine lv_iload_n S.x S.b d_Txp_ask_58 rfl (lv_at hl 1 rfl) ?_
          refine px_putS S k_Txp hT hw 0 0 22 rfl rfl (by decide) m6_159 m6_160 rfl rfl rfl (Nat.le_of_ble_eq_true rfl) d_Txp_ask_59 (w' := wd_Txp cs h r (fun k => if k = 3 then (some hp) else none) (upd (upd f60 22 p0) 23 v63) a61 g) (ps' := [wd_Txp cs h r (fun k => if k = 3 then (some hp) else none) (upd (upd f60 22 p0) 23 v63) a61 g]) rfl rfl (fun H locs hw => ?_)
          refine lv_aload_n S.x S.b d_Txp_ask_62 rfl (lv_at hl 0 rfl) ?_
          refine lv_iconst (v := 1) S.x S.b d_Txp_ask_63 (by decide) ?_
          refine px_putS S k_Txp hT hw 0 0 21 rfl rfl (by decide) m6_153 m6_154 rfl rfl rfl (Nat.le_of_ble_eq_true rfl) d_Txp_ask_64 (w' := wd_Txp cs h r (fun k => if k = 3 then (some hp) else none) (upd (upd (upd f60 21 1) 22 p0) 23 v63) a61 g) (ps' := [wd_Txp cs h r (fun k => if k = 3 then (some hp) else none) (upd (upd (upd f60 21 1) 22 p0) 23 v63) a61 g]) rfl rfl (fun H locs hw => ?_)
          first | exact px_vret S hr hlk hAe hw (Nat.le_of_ble_eq_true rfl) (Nat.le_of_ble_eq_true rfl) (⟨(upd (upd (upd f60 21 1) 22 p0) 23 v63), a61, rfl, (show TxOk (f60 4) (f60 5) (f60 8) (f60 9) (f60 17) 1 (a61 2) from ⟨lk, ⟨i2, i3⟩, ⟨i4, i5⟩, ⟨i6, i7⟩, i8, ⟨by omega, by omega⟩, by omega, hrt⟩), (show (f60 9).toInt = (f 9).toInt from e64), (show (f60 17).toInt = (f 17).toInt from e65), (show (1 : Int) = 1 from by first | decide | omega), (show (f60 15).toInt = (f 15).toInt from e67), (show (f60 20).toInt = (f 20).toInt from e68)⟩) d_Txp_ask_67 | exact px_vret S hr hlk hAe hw (Nat.le_of_ble_eq_true rfl) (Nat.le_of_ble_eq_true rfl) (⟨(upd (upd (upd f60 21 1) 22 p0) 23 v63), a61, rfl, (show TxOk (f60 4) (f60 5) (f60 8) (f60 9) (f60 17) 1 (a61 2) from ⟨lk, ⟨by first | exact i2 | omega, by first | exact i3 | omega⟩, ⟨by first | exact i4 | omega, by first | exact i5 | omega⟩, ⟨by first | exact i6 | omega, by first | exact i7 | omega⟩, by first | exact i8 | omega, ⟨by omega, by omega⟩, by omega, hrt⟩), (show (f60 9).toInt = (f 9).toInt from by first | exact e64 | omega), (show (f60 17).toInt = (f 17).toInt from by first | exact e65 | omega), (show (1 : Int) = 1 from by first | decide | omega), (show (f60 15).toInt = (f 15).toInt from by first | exact e67 | omega), (show (f60 20).toInt = (f 20).toInt from by first | exact e68 | omega)⟩) d_Txp_ask_67
        · have nc59 : p0.toInt = (5 : Int) := (i_eq (x := p0) (y := 5)).mp c59
          refine lv_aload_n S.x S.b d_Txp_ask_41 rfl (lv_at hl 0 rfl) ?_
          refine lv_aload_n S.x S.b d_Txp_ask_42 rfl (lv_at hl 0 rfl) ?_
          first | refine px_calli (pr := []) (px_runV (As := []) (rest := [.ref h]) S (c_Txp_pop l D cs h r g hp f a   (show TxOk (f 4) (f 5) (f 8) (f 9) (f 17) (f 21) (a 2) from ⟨lk, ⟨i2, i3⟩, ⟨i4, i5⟩, ⟨i6, i7⟩, i8, ⟨i9, i11⟩, i10, hrt⟩) _) hT (pr := []) (pcs := [wd_Txp cs h r (fun k => if k = 3 then (some hp) else none) f a g]) hw px_X.tt (px_recv hT hw 0 0 rfl rfl rfl) m9_15 m9_12 m9_14 ms_7_0 m1_35 q_Txp_pop ⟨Nat.le_of_ble_eq_true rfl, Nat.le_of_ble_eq_true rfl⟩ hl.1 rfl (Nat.le_of_ble_eq_true rfl) d_Txp_ask_43 ⟨Nat.le_of_ble_eq_true rfl, Nat.le_of_ble_eq_true rfl⟩) hw hA (fun v74 p73 H locs hp73 hw => ?_) | refine px_calli (pr := []) (px_runV (As := []) (rest := [.ref h]) S (c_Txp_pop l D cs h r g hp f a   (show TxOk (f 4) (f 5) (f 8) (f 9) (f 17) (f 21) (a 2) from ⟨lk, ⟨by first | exact i2 | omega, by first | exact i3 | omega⟩, ⟨by first | exact i4 | omega, by first | exact i5 | omega⟩, ⟨by first | exact i6 | omega, by first | exact i7 | omega⟩, by first | exact i8 | omega, ⟨by first | exact i9 | omega, by first | exact i11 | omega⟩, by first | exact i10 | omega, hrt⟩) _) hT (pr := []) (pcs := [wd_Txp cs h r (fun k => if k = 3 then (some hp) else none) f a g]) hw px_X.tt (px_recv hT hw 0 0 rfl rfl rfl) m9_15 m9_12 m9_14 ms_7_0 m1_35 q_Txp_pop ⟨Nat.le_of_ble_eq_true rfl, Nat.le_of_ble_eq_true rfl⟩ hl.1 rfl (Nat.le_of_ble_eq_true rfl) d_Txp_ask_43 ⟨Nat.le_of_ble_eq_true rfl, Nat.le_of_ble_eq_true rfl⟩) hw hA (fun v74 p73 H locs hp73 hw => ?_)
          obtain ⟨f71, a72, rfl, h81, e75, e76, e77, e78, e79, e80⟩ := hp73
          obtain ⟨lk, ⟨i2, i3⟩, ⟨i4, i5⟩, ⟨i6, i7⟩, i8, ⟨i9, i11⟩, i10, hrt⟩ := h81
          have e75 : (f71 9).toInt = (f 9).toInt := e75
          have e76 : (f71 17).toInt = (f 17).toInt := e76
          have e77 : (f71 21).toInt = (f 21).toInt := e77
          have e78 : (f71 15).toInt = (f 15).toInt := e78
          have e79 : (f71 20).toInt = (f 20).toInt := e79
          have e80 : (f71 4).toInt = (f 4).toInt := e80
          have lv74 := Int32.le_toInt v74
          have uv74 := Int32.toInt_lt v74
          refine px_putS S k_Txp hT hw 0 0 24 rfl rfl (by decide) m6_167 m6_168 rfl rfl rfl (Nat.le_of_ble_eq_true rfl) d_Txp_ask_46 (w' := wd_Txp cs h r (fun k => if k = 3 then (some hp) else none) (upd f71 24 v74) a72 g) (ps' := [wd_Txp cs h r (fun k => if k = 3 then (some hp) else none) (upd f71 24 v74) a72 g]) rfl rfl (fun H locs hw => ?_)
          refine lv_aload_n S.x S.b d_Txp_ask_49 rfl (lv_at hl 0 rfl) ?_
          refine lv_aload_n S.x S.b d_Txp_ask_50 rfl (lv_at hl 0 rfl) ?_
          first | refine px_calli (pr := []) (px_runV (As := []) (rest := [.ref h]) S (c_Txp_pop l D cs h r g hp (upd f71 24 v74) a72   (show TxOk (f71 4) (f71 5) (f71 8) (f71 9) (f71 17) (f71 21) (a72 2) from ⟨lk, ⟨i2, i3⟩, ⟨i4, i5⟩, ⟨i6, i7⟩, i8, ⟨i9, i11⟩, i10, hrt⟩) _) hT (pr := []) (pcs := [wd_Txp cs h r (fun k => if k = 3 then (some hp) else none) (upd f71 24 v74) a72 g]) hw px_X.tt (px_recv hT hw 0 0 rfl rfl rfl) m9_15 m9_12 m9_14 ms_7_0 m1_35 q_Txp_pop ⟨Nat.le_of_ble_eq_true rfl, Nat.le_of_ble_eq_true rfl⟩ hl.1 rfl (Nat.le_of_ble_eq_true rfl) d_Txp_ask_51 ⟨Nat.le_of_ble_eq_true rfl, Nat.le_of_ble_eq_true rfl⟩) hw hA (fun v85 p84 H locs hp84 hw => ?_) | refine px_calli (pr := []) (px_runV (As := []) (rest := [.ref h]) S (c_Txp_pop l D cs h r g hp (upd f71 24 v74) a72   (show TxOk (f71 4) (f71 5) (f71 8) (f71 9) (f71 17) (f71 21) (a72 2) from ⟨lk, ⟨by first | exact i2 | omega, by first | exact i3 | omega⟩, ⟨by first | exact i4 | omega, by first | exact i5 | omega⟩, ⟨by first | exact i6 | omega, by first | exact i7 | omega⟩, by first | exact i8 | omega, ⟨by first | exact i9 | omega, by first | exact i11 | omega⟩, by first | exact i10 | omega, hrt⟩) _) hT (pr := []) (pcs := [wd_Txp cs h r (fun k => if k = 3 then (some hp) else none) (upd f71 24 v74) a72 g]) hw px_X.tt (px_recv hT hw 0 0 rfl rfl rfl) m9_15 m9_12 m9_14 ms_7_0 m1_35 q_Txp_pop ⟨Nat.le_of_ble_eq_true rfl, Nat.le_of_ble_eq_true rfl⟩ hl.1 rfl (Nat.le_of_ble_eq_true rfl) d_Txp_ask_51 ⟨Nat.le_of_ble_eq_true rfl, Nat.le_of_ble_eq_true rfl⟩) hw hA (fun v85 p84 H locs hp84 hw => ?_)
          obtain ⟨f82, a83, rfl, h92, e86, e87, e88, e89, e90, e91⟩ := hp84
          obtain ⟨lk, ⟨i2, i3⟩, ⟨i4, i5⟩, ⟨i6, i7⟩, i8, ⟨i9, i11⟩, i10, hrt⟩ := h92
          have e86 : (f82 9).toInt = (f71 9).toInt := e86
          have e87 : (f82 17).toInt = (f71 17).toInt := e87
          have e88 : (f82 21).toInt = (f71 21).toInt := e88
          have e89 : (f82 15).toInt = (f71 15).toInt := e89
          have e90 : (f82 20).toInt = (f71 20).toInt := e90
          have e91 : (f82 4).toInt = (f71 4).toInt := e91
          have lv85 := Int32.le_toInt v85
          have uv85 := Int32.toInt_lt v85
          refine px_putS S k_Txp hT hw 0 0 23 rfl rfl (by decide) m6_162 m6_163 rfl rfl rfl (Nat.le_of_ble_eq_true rfl) d_Txp_ask_54 (w' := wd_Txp cs h r (fun k => if k = 3 then (some hp) else none) (upd f82 23 v85) a83 g) (ps' := [wd_Txp cs h r (fun k => if k = 3 then (some hp) else none) (upd f82 23 v85) a83 g]) rfl rfl (fun H locs hw => ?_)
          refine lv_aload_n S.x S.b d_Txp_ask_57 rfl (lv_at hl 0 rfl) ?_
          refine lv_iload_n S.x S.b d_Txp_ask_58 rfl (lv_at hl 1 rfl) ?_
          refine px_putS S k_Txp hT hw 0 0 22 rfl rfl (by decide) m6_159 m6_160 rfl rfl rfl (Nat.le_of_ble_eq_true rfl) d_Txp_ask_59 (w' := wd_Txp cs h r (fun k => if k = 3 then (some hp) else none) (upd (upd f82 22 p0) 23 v85) a83 g) (ps' := [wd_Txp cs h r (fun k => if k = 3 then (some hp) else none) (upd (upd f82 22 p0) 23 v85) a83 g]) rfl rfl (fun H locs hw => ?_)
          refine lv_aload_n S.x S.b d_Txp_ask_62 rfl (lv_at hl 0 rfl) ?_
          refine lv_iconst (v := 1) S.x S.b d_Txp_ask_63 (by decide) ?_
          refine px_putS S k_Txp hT hw 0 0 21 rfl rfl (by decide) m6_153 m6_154 rfl rfl rfl (Nat.le_of_ble_eq_true rfl) d_Txp_ask_64 (w' := wd_Txp cs h r (fun k => if k = 3 then (some hp) else none) (upd (upd (upd f82 21 1) 22 p0) 23 v85) a83 g) (ps' := [wd_Txp cs h r (fun k => if k = 3 then (some hp) else none) (upd (upd (upd f82 21 1) 22 p0) 23 v85) a83 g]) rfl rfl (fun H locs hw => ?_)
          first | exact px_vret S hr hlk hAe hw (Nat.le_of_ble_eq_true rfl) (Nat.le_of_ble_eq_true rfl) (⟨(upd (upd (upd f82 21 1) 22 p0) 23 v85), a83, rfl, (show TxOk (f82 4) (f82 5) (f82 8) (f82 9) (f82 17) 1 (a83 2) from ⟨lk, ⟨i2, i3⟩, ⟨i4, i5⟩, ⟨i6, i7⟩, i8, ⟨by omega, by omega⟩, by omega, hrt⟩), (show (f82 9).toInt = (f 9).toInt from (oz_1687f4cc65 e75 e86)), (show (f82 17).toInt = (f 17).toInt from (oz_1687f4cc65 e76 e87)), (show (1 : Int) = 1 from by first | decide | omega), (show (f82 15).toInt = (f 15).toInt from (oz_1687f4cc65 e78 e89)), (show (f82 20).toInt = (f 20).toInt from (oz_1687f4cc65 e79 e90))⟩) d_Txp_ask_67 | exact px_vret S hr hlk hAe hw (Nat.le_of_ble_eq_true rfl) (Nat.le_of_ble_eq_true rfl) (⟨(upd (upd (upd f82 21 1) 22 p0) 23 v85), a83, rfl, (show TxOk (f82 4) (f82 5) (f82 8) (f82 9) (f82 17) 1 (a83 2) from ⟨lk, ⟨by first | exact i2 | omega, by first | exact i3 | omega⟩, ⟨by first | exact i4 | omega, by first | exact i5 | omega⟩, ⟨by first | exact i6 | omega, by first | exact i7 | omega⟩, by first | exact i8 | omega, ⟨by omega, by omega⟩, by omega, hrt⟩), (show (f82 9).toInt = (f 9).toInt from by first | exact oz_1687f4cc65 e75 e86 | omega), (show (f82 17).toInt = (f 17).toInt from by first | exact oz_1687f4cc65 e76 e87 | omega), (show (1 : Int) = 1 from by first | decide | omega), (show (f82 15).toInt = (f 15).toInt from by first | exact oz_1687f4cc65 e78 e89 | omega), (show (f82 20).toInt = (f 20).toInt from by first | exact oz_1687f4cc65 e79 e90 | omega)⟩) d_Txp_ask_67
    · have nc35 : p0.toInt = (8 : Int) := (i_eq (x := p0) (y := 8)).mp c35
      refine lv_aload_n S.x S.b d_Txp_ask_12 rfl (lv_at hl 0 rfl) ?_
      refine lv_aload_n S.x S.b d_Txp_ask_13 rfl (lv_at hl 0 rfl) ?_
      first | refine px_calli (pr := []) (px_runV (As := []) (rest := [.ref h]) S (c_Txp_pop l D cs h r g hp f a   (show TxOk (f 4) (f 5) (f 8) (f 9) (f 17) (f 21) (a 2) from ⟨lk, ⟨i2, i3⟩, ⟨i4, i5⟩, ⟨i6, i7⟩, i8, ⟨i9, i11⟩, i10, hrt⟩) _) hT (pr := []) (pcs := [wd_Txp cs h r (fun k => if k = 3 then (some hp) else none) f a g]) hw px_X.tt (px_recv hT hw 0 0 rfl rfl rfl) m9_15 m9_12 m9_14 ms_7_0 m1_35 q_Txp_pop ⟨Nat.le_of_ble_eq_true rfl, Nat.le_of_ble_eq_true rfl⟩ hl.1 rfl (Nat.le_of_ble_eq_true rfl) d_Txp_ask_14 ⟨Nat.le_of_ble_eq_true rfl, Nat.le_of_ble_eq_true rfl⟩) hw hA (fun v96 p95 H locs hp95 hw => ?_) | refine px_calli (pr := []) (px_runV (As := []) (rest := [.ref h]) S (c_Txp_pop l D cs h r g hp f a   (show TxOk (f 4) (f 5) (f 8) (f 9) (f 17) (f 21) (a 2) from ⟨lk, ⟨by first | exact i2 | omega, by first | exact i3 | omega⟩, ⟨by first | exact i4 | omega, by first | exact i5 | omega⟩, ⟨by first | exact i6 | omega, by first | exact i7 | omega⟩, by first | exact i8 | omega, ⟨by first | exact i9 | omega, by first | exact i11 | omega⟩, by first | exact i10 | omega, hrt⟩) _) hT (pr := []) (pcs := [wd_Txp cs h r (fun k => if k = 3 then (some hp) else none) f a g]) hw px_X.tt (px_recv hT hw 0 0 rfl rfl rfl) m9_15 m9_12 m9_14 ms_7_0 m1_35 q_Txp_pop ⟨Nat.le_of_ble_eq_true rfl, Nat.le_of_ble_eq_true rfl⟩ hl.1 rfl (Nat.le_of_ble_eq_true rfl) d_Txp_ask_14 ⟨Nat.le_of_ble_eq_true rfl, Nat.le_of_ble_eq_true rfl⟩) hw hA (fun v96 p95 H locs hp95 hw => ?_)
      obtain ⟨f93, a94, rfl, h103, e97, e98, e99, e100, e101, e102⟩ := hp95
      obtain ⟨lk, ⟨i2, i3⟩, ⟨i4, i5⟩, ⟨i6, i7⟩, i8, ⟨i9, i11⟩, i10, hrt⟩ := h103
      have e97 : (f93 9).toInt = (f 9).toInt := e97
      have e98 : (f93 17).toInt = (f 17).toInt := e98
      have e99 : (f93 21).toInt = (f 21).toInt := e99
      have e100 : (f93 15).toInt = (f 15).toInt := e100
      have e101 : (f93 20).toInt = (f 20).toInt := e101
      have e102 : (f93 4).toInt = (f 4).toInt := e102
      have lv96 := Int32.le_toInt v96
      have uv96 := Int32.toInt_lt v96
      refine px_put S k_Txp hT hw 0 0 14 rfl rfl (by decide) m6_227 rfl rfl rfl (Nat.le_of_ble_eq_true rfl) d_Txp_ask_17 (w' := wd_Txp cs h r (fun k => if k = 3 then (some hp) else none) (upd f93 14 v96) a94 g) (ps' := [wd_Txp cs h r (fun k => if k = 3 then (some hp) else none) (upd f93 14 v96) a94 g]) rfl rfl (fun H locs hw => ?_)
      refine lv_aload_n S.x S.b d_Txp_ask_20 rfl (lv_at hl 0 rfl) ?_
      refine lv_aload_n S.x S.b d_Txp_ask_21 rfl (lv_at hl 0 rfl) ?_
      first | refine px_calli (pr := []) (px_runV (As := []) (rest := [.ref h]) S (c_Txp_pop l D cs h r g hp (upd f93 14 v96) a94   (show TxOk (f93 4) (f93 5) (f93 8) (f93 9) (f93 17) (f93 21) (a94 2) from ⟨lk, ⟨i2, i3⟩, ⟨i4, i5⟩, ⟨i6, i7⟩, i8, ⟨i9, i11⟩, i10, hrt⟩) _) hT (pr := []) (pcs := [wd_Txp cs h r (fun k => if k = 3 then (some hp) else none) (upd f93 14 v96) a94 g]) hw px_X.tt (px_recv hT hw 0 0 rfl rfl rfl) m9_15 m9_12 m9_14 ms_7_0 m1_35 q_Txp_pop ⟨Nat.le_of_ble_eq_true rfl, Nat.le_of_ble_eq_true rfl⟩ hl.1 rfl (Nat.le_of_ble_eq_true rfl) d_Txp_ask_22 ⟨Nat.le_of_ble_eq_true rfl, Nat.le_of_ble_eq_true rfl⟩) hw hA (fun v107 p106 H locs hp106 hw => ?_) | refine px_calli (pr := []) (px_runV (As := []) (rest := [.ref h]) S (c_Txp_pop l D cs h r g hp (upd f93 14 v96) a94   (show TxOk (f93 4) (f93 5) (f93 8) (f93 9) (f93 17) (f93 21) (a94 2) from ⟨lk, ⟨by first | exact i2 | omega, by first | exact i3 | omega⟩, ⟨by first | exact i4 | omega, by first | exact i5 | omega⟩, ⟨by first | exact i6 | omega, by first | exact i7 | omega⟩, by first | exact i8 | omega, ⟨by first | exact i9 | omega, by first | exact i11 | omega⟩, by first | exact i10 | omega, hrt⟩) _) hT (pr := []) (pcs := [wd_Txp cs h r (fun k => if k = 3 then (some hp) else none) (upd f93 14 v96) a94 g]) hw px_X.tt (px_recv hT hw 0 0 rfl rfl rfl) m9_15 m9_12 m9_14 ms_7_0 m1_35 q_Txp_pop ⟨Nat.le_of_ble_eq_true rfl, Nat.le_of_ble_eq_true rfl⟩ hl.1 rfl (Nat.le_of_ble_eq_true rfl) d_Txp_ask_22 ⟨Nat.le_of_ble_eq_true rfl, Nat.le_of_ble_eq_true rfl⟩) hw hA (fun v107 p106 H locs hp106 hw => ?_)
      obtain ⟨f104, a105, rfl, h114, e108, e109, e110, e111, e112, e113⟩ := hp106
      obtain ⟨lk, ⟨i2, i3⟩, ⟨i4, i5⟩, ⟨i6, i7⟩, i8, ⟨i9, i11⟩, i10, hrt⟩ := h114
      have e108 : (f104 9).toInt = (f93 9).toInt := e108
      have e109 : (f104 17).toInt = (f93 17).toInt := e109
      have e110 : (f104 21).toInt = (f93 21).toInt := e110
      have e111 : (f104 15).toInt = (f93 15).toInt := e111
      have e112 : (f104 20).toInt = (f93 20).toInt := e112
      have e113 : (f104 4).toInt = (f93 4).toInt := e113
      have lv107 := Int32.le_toInt v107
      have uv107 := Int32.toInt_lt v107
      refine px_put S k_Txp hT hw 0 0 13 rfl rfl (by decide) m6_226 rfl rfl rfl (Nat.le_of_ble_eq_true rfl) d_Txp_ask_25 (w' := wd_Txp cs h r (fun k => if k = 3 then (some hp) else none) (upd f104 13 v107) a105 g) (ps' := [wd_Txp cs h r (fun k => if k = 3 then (some hp) else none) (upd f104 13 v107) a105 g]) rfl rfl (fun H locs hw => ?_)
      refine lv_goto (tgt := 49) S.x S.b d_Txp_ask_28 (by decide) ?_
      refine lv_aload_n S.x S.b d_Txp_ask_49 rfl (lv_at hl 0 rfl) ?_
      refine lv_aload_n S.x S.b d_Txp_ask_50 rfl (lv_at hl 0 rfl) ?_
      first | refine px_calli (pr := []) (px_runV (As := []) (rest := [.ref h]) S (c_Txp_pop l D cs h r g hp (upd f104 13 v107) a105   (show TxOk (f104 4) (f104 5) (f104 8) (f104 9) (f104 17) (f104 21) (a105 2) from ⟨lk, ⟨i2, i3⟩, ⟨i4, i5⟩, ⟨i6, i7⟩, i8, ⟨i9, i11⟩, i10, hrt⟩) _) hT (pr := []) (pcs := [wd_Txp cs h r (fun k => if k = 3 then (some hp) else none) (upd f104 13 v107) a105 g]) hw px_X.tt (px_recv hT hw 0 0 rfl rfl rfl) m9_15 m9_12 m9_14 ms_7_0 m1_35 q_Txp_pop ⟨Nat.le_of_ble_eq_true rfl, Nat.le_of_ble_eq_true rfl⟩ hl.1 rfl (Nat.le_of_ble_eq_true rfl) d_Txp_ask_51 ⟨Nat.le_of_ble_eq_true rfl, Nat.le_of_ble_eq_true rfl⟩) hw hA (fun v118 p117 H locs hp117 hw => ?_) | refine px_calli (pr := []) (px_runV (As := []) (rest := [.ref h]) S (c_Txp_pop l D cs h r g hp (upd f104 13 v107) a105   (show TxOk (f104 4) (f104 5) (f104 8) (f104 9) (f104 17) (f104 21) (a105 2) from ⟨lk, ⟨by first | exact i2 | omega, by first | exact i3 | omega⟩, ⟨by first | exact i4 | omega, by first | exact i5 | omega⟩, ⟨by first | exact i6 | omega, by first | exact i7 | omega⟩, by first | exact i8 | omega, ⟨by first | exact i9 | omega, by first | exact i11 | omega⟩, by first | exact i10 | omega, hrt⟩) _) hT (pr := []) (pcs := [wd_Txp cs h r (fun k => if k = 3 then (some hp) else none) (upd f104 13 v107) a105 g]) hw px_X.tt (px_recv hT hw 0 0 rfl rfl rfl) m9_15 m9_12 m9_14 ms_7_0 m1_35 q_Txp_pop ⟨Nat.le_of_ble_eq_true rfl, Nat.le_of_ble_eq_true rfl⟩ hl.1 rfl (Nat.le_of_ble_eq_true rfl) d_Txp_ask_51 ⟨Nat.le_of_ble_eq_true rfl, Nat.le_of_ble_eq_true rfl⟩) hw hA (fun v118 p117 H locs hp117 hw => ?_)
      obtain ⟨f115, a116, rfl, h125, e119, e120, e121, e122, e123, e124⟩ := hp117
      obtain ⟨lk, ⟨i2, i3⟩, ⟨i4, i5⟩, ⟨i6, i7⟩, i8, ⟨i9, i11⟩, i10, hrt⟩ := h125
      have e119 : (f115 9).toInt = (f104 9).toInt := e119
      have e120 : (f115 17).toInt = (f104 17).toInt := e120
      have e121 : (f115 21).toInt = (f104 21).toInt := e121
      have e122 : (f115 15).toInt = (f104 15).toInt := e122
      have e123 : (f115 20).toInt = (f104 20).toInt := e123
      have e124 : (f115 4).toInt = (f104 4).toInt := e124
      have lv118 := Int32.le_toInt v118
      have uv118 := Int32.toInt_lt v118
      refine px_putS S k_Txp hT hw 0 0 23 rfl rfl (by decide) m6_162 m6_163 rfl rfl rfl (Nat.le_of_ble_eq_true rfl) d_Txp_ask_54 (w' := wd_Txp cs h r (fun k => if k = 3 then (some hp) else none) (upd f115 23 v118) a116 g) (ps' := [wd_Txp cs h r (fun k => if k = 3 then (some hp) else none) (upd f115 23 v118) a116 g]) rfl rfl (fun H locs hw => ?_)
      refine lv_aload_n S.x S.b d_Txp_ask_57 rfl (lv_at hl 0 rfl) ?_
      refine lv_iload_n S.x S.b d_Txp_ask_58 rfl (lv_at hl 1 rfl) ?_
      refine px_putS S k_Txp hT hw 0 0 22 rfl rfl (by decide) m6_159 m6_160 rfl rfl rfl (Nat.le_of_ble_eq_true rfl) d_Txp_ask_59 (w' := wd_Txp cs h r (fun k => if k = 3 then (some hp) else none) (upd (upd f115 22 p0) 23 v118) a116 g) (ps' := [wd_Txp cs h r (fun k => if k = 3 then (some hp) else none) (upd (upd f115 22 p0) 23 v118) a116 g]) rfl rfl (fun H locs hw => ?_)
      refine lv_aload_n S.x S.b d_Txp_ask_62 rfl (lv_at hl 0 rfl) ?_
      refine lv_iconst (v := 1) S.x S.b d_Txp_ask_63 (by decide) ?_
      refine px_putS S k_Txp hT hw 0 0 21 rfl rfl (by decide) m6_153 m6_154 rfl rfl rfl (Nat.le_of_ble_eq_true rfl) d_Txp_ask_64 (w' := wd_Txp cs h r (fun k => if k = 3 then (some hp) else none) (upd (upd (upd f115 21 1) 22 p0) 23 v118) a116 g) (ps' := [wd_Txp cs h r (fun k => if k = 3 then (some hp) else none) (upd (upd (upd f115 21 1) 22 p0) 23 v118) a116 g]) rfl rfl (fun H locs hw => ?_)
      first | exact px_vret S hr hlk hAe hw (Nat.le_of_ble_eq_true rfl) (Nat.le_of_ble_eq_true rfl) (⟨(upd (upd (upd f115 21 1) 22 p0) 23 v118), a116, rfl, (show TxOk (f115 4) (f115 5) (f115 8) (f115 9) (f115 17) 1 (a116 2) from ⟨lk, ⟨i2, i3⟩, ⟨i4, i5⟩, ⟨i6, i7⟩, i8, ⟨by omega, by omega⟩, by omega, hrt⟩), (show (f115 9).toInt = (f 9).toInt from (oz_e13fc83238 e97 e119 e108)), (show (f115 17).toInt = (f 17).toInt from (oz_e13fc83238 e98 e120 e109)), (show (1 : Int) = 1 from by first | decide | omega), (show (f115 15).toInt = (f 15).toInt from (oz_e13fc83238 e100 e122 e111)), (show (f115 20).toInt = (f 20).toInt from (oz_e13fc83238 e101 e123 e112))⟩) d_Txp_ask_67 | exact px_vret S hr hlk hAe hw (Nat.le_of_ble_eq_true rfl) (Nat.le_of_ble_eq_true rfl) (⟨(upd (upd (upd f115 21 1) 22 p0) 23 v118), a116, rfl, (show TxOk (f115 4) (f115 5) (f115 8) (f115 9) (f115 17) 1 (a116 2) from ⟨lk, ⟨by first | exact i2 | omega, by first | exact i3 | omega⟩, ⟨by first | exact i4 | omega, by first | exact i5 | omega⟩, ⟨by first | exact i6 | omega, by first | exact i7 | omega⟩, by first | exact i8 | omega, ⟨by omega, by omega⟩, by omega, hrt⟩), (show (f115 9).toInt = (f 9).toInt from by first | exact oz_e13fc83238 e97 e119 e108 | omega), (show (f115 17).toInt = (f 17).toInt from by first | exact oz_e13fc83238 e98 e120 e109 | omega), (show (1 : Int) = 1 from by first | decide | omega), (show (f115 15).toInt = (f 15).toInt from by first | exact oz_e13fc83238 e100 e122 e111 | omega), (show (f115 20).toInt = (f 20).toInt from by first | exact oz_e13fc83238 e101 e123 e112 | omega)⟩) d_Txp_ask_67
abbrev b_Txp_movable : ByteArray := prog_11_method_5_code
def y_Txp_movable : MethodName := ⟨"HomeSystem$TextProcess", "movable", "()I"⟩
theorem d_Txp_movable_0 : decode b_Txp_movable 0 = .ok (.bipush 16, 2) := by decide +kernel
theorem d_Txp_movable_2 : decode b_Txp_movable 2 = .ok (.aload_n 0, 1) := by decide +kernel
theorem d_Txp_movable_3 : decode b_Txp_movable 3 = .ok (.getfield 88, 3) := by decide +kernel
theorem d_Txp_movable_6 : decode b_Txp_movable 6 = .ok (.invokestatic 59, 3) := by decide +kernel
theorem d_Txp_movable_9 : decode b_Txp_movable 9 = .ok (.ireturn, 1) := by decide +kernel
theorem q_Txp_movable : px_y y_Txp_movable 0 := by unfold px_y; decide +kernel
set_option maxHeartbeats 4000000 in
set_option maxRecDepth 100000 in
theorem c_Txp_movable (l : Launch) (D : va_G) (cs : Nat → ClassId) (h : Nat) (r : Nat → Nat) (g : Nat → Nat → Option Nat) (hp : Nat) (f : Nat → Int32) (a : Nat → Nat → Int32)  (hinv0 : TxOk (f 4) (f 5) (f 8) (f 9) (f 17) (f 21) (a 2)) : MetI l y_Txp_movable b_Txp_movable 1 (.int) D cs 1 30 (0) (0) [.ref h] [wd_Txp cs h r (fun k => if k = 3 then (some hp) else none) f a g] (fun _ => True) (fun v ps => (ps = [wd_Txp cs h r (fun k => if k = 3 then (some hp) else none) f a g]) ∧ (v.toInt ≤ 16)) := by
  refine px_enter (by decide) (Nat.le_of_ble_eq_true rfl) ?_
  intro p e s m below meth c A ls hAe S hr hlk hnm hA hT hX hw hl
  have hl : lv_has ls 1 [(0, .ref h)] := hl
  have cst16 : (16 : Int32).toInt = 16 := rfl
  obtain ⟨lk, ⟨i2, i3⟩, ⟨i4, i5⟩, ⟨i6, i7⟩, i8, ⟨i9, i11⟩, i10, hrt⟩ := hinv0
  refine lv_bipush (v := 16) S.x S.b d_Txp_movable_0 (by decide) ?_
  refine lv_aload_n S.x S.b d_Txp_movable_2 rfl (lv_at hl 0 rfl) ?_
  refine px_get S k_Txp hT hw 0 0 14 (v := .int (f 14)) rfl rfl rfl (by decide) m6_227 d_Txp_movable_3 ?_
  refine va_mmin S.x S.b (by rw [S.ml]; exact hl.1.symm) S.own (S.w m7_50) (S.w m2_68) (S.w m1_13) (S.w m2_69) (Nat.le_of_ble_eq_true rfl) (Nat.le_of_ble_eq_true rfl) (Nat.zero_le _) (Nat.zero_le _) d_Txp_movable_6 ?_
  refine lv_topi (fun z1 ez1 => ?_)
  have tz1 := i_min 16 (f 14) ez1
  have lz1 := Int32.le_toInt z1
  have uz1 := Int32.toInt_lt z1
  exact px_iret (v := z1) S hr rfl hlk hAe hw (Nat.le_of_ble_eq_true rfl) (Nat.le_of_ble_eq_true rfl) (⟨rfl, (show z1.toInt ≤ 16 from by first | with_reducible rfl | with_reducible assumption | omega)⟩) d_Txp_movable_9
abbrev b_Txp_wordToMove : ByteArray := prog_11_method_6_code
def y_Txp_wordToMove : MethodName := ⟨"HomeSystem$TextProcess", "wordToMove", "(I)I"⟩
theorem d_Txp_wordToMove_0 : decode b_Txp_wordToMove 0 = .ok (.aload_n 0, 1) := by decide +kernel
theorem d_Txp_wordToMove_1 : decode b_Txp_wordToMove 1 = .ok (.aload_n 0, 1) := by decide +kernel
theorem d_Txp_wordToMove_2 : decode b_Txp_wordToMove 2 = .ok (.getfield 91, 3) := by decide +kernel
theorem d_Txp_wordToMove_5 : decode b_Txp_wordToMove 5 = .ok (.iload_n 1, 1) := by decide +kernel
theorem d_Txp_wordToMove_6 : decode b_Txp_wordToMove 6 = .ok (.iadd, 1) := by decide +kernel
theorem d_Txp_wordToMove_7 : decode b_Txp_wordToMove 7 = .ok (.invokevirtual 94, 3) := by decide +kernel
theorem d_Txp_wordToMove_10 : decode b_Txp_wordToMove 10 = .ok (.ireturn, 1) := by decide +kernel
theorem q_Txp_wordToMove : px_y y_Txp_wordToMove 1 := by unfold px_y; decide +kernel
set_option maxHeartbeats 4000000 in
set_option maxRecDepth 100000 in
theorem c_Txp_wordToMove (l : Launch) (D : va_G) (cs : Nat → ClassId) (h : Nat) (r : Nat → Nat) (g : Nat → Nat → Option Nat) (hp : Nat) (f : Nat → Int32) (a : Nat → Nat → Int32) (p0 : Int32)  (hinv0 : TxOk (f 4) (f 5) (f 8) (f 9) (f 17) (f 21) (a 2)) : MetI l y_Txp_wordToMove b_Txp_wordToMove 2 (.int) D cs 1 30 (0) (0) [.ref h, .int p0] [wd_Txp cs h r (fun k => if k = 3 then (some hp) else none) f a g] (fun _ => True) (fun v ps => (ps = [wd_Txp cs h r (fun k => if k = 3 then (some hp) else none) f a g])) := by
  refine px_enter (by decide) (Nat.le_of_ble_eq_true rfl) ?_
  intro p e s m below meth c A ls hAe S hr hlk hnm hA hT hX hw hl
  have hl : lv_has ls 2 [(0, .ref h), (1, .int p0)] := hl
  have lp0 := Int32.le_toInt p0
  have up0 := Int32.toInt_lt p0
  obtain ⟨lk, ⟨i2, i3⟩, ⟨i4, i5⟩, ⟨i6, i7⟩, i8, ⟨i9, i11⟩, i10, hrt⟩ := hinv0
  refine lv_aload_n S.x S.b d_Txp_wordToMove_0 rfl (lv_at hl 0 rfl) ?_
  refine lv_aload_n S.x S.b d_Txp_wordToMove_1 rfl (lv_at hl 0 rfl) ?_
  refine px_get S k_Txp hT hw 0 0 13 (v := .int (f 13)) rfl rfl rfl (by decide) m6_226 d_Txp_wordToMove_2 ?_
  refine lv_iload_n S.x S.b d_Txp_wordToMove_5 rfl (lv_at hl 1 rfl) ?_
  refine lv_iadd S.x S.b d_Txp_wordToMove_6 ?_
  have lr1 := Int32.le_toInt (f 13)
  have ur1 := Int32.toInt_lt (f 13)
  refine lv_topi (fun z2 ez2 => ?_)
  have tz2 : z2.toInt = ((f 13).toInt + p0.toInt + 2147483648) % 4294967296 - 2147483648 := by rw [ez2]; exact i_add (f 13) p0
  have lz2 := Int32.le_toInt z2
  have uz2 := Int32.toInt_lt z2
  try replace tz2 : z2.toInt = (f 13).toInt + p0.toInt := by omega
  first | refine px_calli (pr := []) (px_runV (As := [.int z2]) (rest := []) S (c_Txp_peek l D cs h r g hp f a z2  (show TxOk (f 4) (f 5) (f 8) (f 9) (f 17) (f 21) (a 2) from ⟨lk, ⟨i2, i3⟩, ⟨i4, i5⟩, ⟨i6, i7⟩, i8, ⟨i9, i11⟩, i10, hrt⟩) _) hT (pr := []) (pcs := [wd_Txp cs h r (fun k => if k = 3 then (some hp) else none) f a g]) hw px_X.tt (px_recv hT hw 0 0 rfl rfl rfl) m8_146 m8_143 m8_145 ms_5_15 m1_35 q_Txp_peek ⟨Nat.le_of_ble_eq_true rfl, Nat.le_of_ble_eq_true rfl⟩ hl.1 rfl (Nat.le_of_ble_eq_true rfl) d_Txp_wordToMove_7 ⟨Nat.le_of_ble_eq_true rfl, Nat.le_of_ble_eq_true rfl⟩) hw hA (fun v4 p3 H locs hp3 hw => ?_) | refine px_calli (pr := []) (px_runV (As := [.int z2]) (rest := []) S (c_Txp_peek l D cs h r g hp f a z2  (show TxOk (f 4) (f 5) (f 8) (f 9) (f 17) (f 21) (a 2) from ⟨lk, ⟨by first | exact i2 | omega, by first | exact i3 | omega⟩, ⟨by first | exact i4 | omega, by first | exact i5 | omega⟩, ⟨by first | exact i6 | omega, by first | exact i7 | omega⟩, by first | exact i8 | omega, ⟨by first | exact i9 | omega, by first | exact i11 | omega⟩, by first | exact i10 | omega, hrt⟩) _) hT (pr := []) (pcs := [wd_Txp cs h r (fun k => if k = 3 then (some hp) else none) f a g]) hw px_X.tt (px_recv hT hw 0 0 rfl rfl rfl) m8_146 m8_143 m8_145 ms_5_15 m1_35 q_Txp_peek ⟨Nat.le_of_ble_eq_true rfl, Nat.le_of_ble_eq_true rfl⟩ hl.1 rfl (Nat.le_of_ble_eq_true rfl) d_Txp_wordToMove_7 ⟨Nat.le_of_ble_eq_true rfl, Nat.le_of_ble_eq_true rfl⟩) hw hA (fun v4 p3 H locs hp3 hw => ?_)
  subst hp3
  have lv4 := Int32.le_toInt v4
  have uv4 := Int32.toInt_lt v4
  exact px_iret (v := v4) S hr rfl hlk hAe hw (Nat.le_of_ble_eq_true rfl) (Nat.le_of_ble_eq_true rfl) (rfl) d_Txp_wordToMove_10
abbrev b_Txp_moveWord : ByteArray := prog_11_method_7_code
def y_Txp_moveWord : MethodName := ⟨"HomeSystem$TextProcess", "moveWord", "(II)V"⟩
theorem d_Txp_moveWord_0 : decode b_Txp_moveWord 0 = .ok (.aload_n 0, 1) := by decide +kernel
theorem d_Txp_moveWord_1 : decode b_Txp_moveWord 1 = .ok (.aload_n 0, 1) := by decide +kernel
theorem d_Txp_moveWord_2 : decode b_Txp_moveWord 2 = .ok (.getfield 91, 3) := by decide +kernel
theorem d_Txp_moveWord_5 : decode b_Txp_moveWord 5 = .ok (.iload_n 1, 1) := by decide +kernel
theorem d_Txp_moveWord_6 : decode b_Txp_moveWord 6 = .ok (.iadd, 1) := by decide +kernel
theorem d_Txp_moveWord_7 : decode b_Txp_moveWord 7 = .ok (.iload_n 2, 1) := by decide +kernel
theorem d_Txp_moveWord_8 : decode b_Txp_moveWord 8 = .ok (.invokevirtual 98, 3) := by decide +kernel
theorem d_Txp_moveWord_11 : decode b_Txp_moveWord 11 = .ok (.return_, 1) := by decide +kernel
theorem q_Txp_moveWord : px_y y_Txp_moveWord 2 := by unfold px_y; decide +kernel
set_option maxHeartbeats 4000000 in
set_option maxRecDepth 100000 in
theorem c_Txp_moveWord (l : Launch) (D : va_G) (cs : Nat → ClassId) (h : Nat) (r : Nat → Nat) (g : Nat → Nat → Option Nat) (hp : Nat) (f : Nat → Int32) (a : Nat → Nat → Int32) (p0 p1 : Int32)  (hinv0 : TxOk (f 4) (f 5) (f 8) (f 9) (f 17) (f 21) (a 2)) : MetV l y_Txp_moveWord b_Txp_moveWord 3 D cs 1 30 (0) (0) [.ref h, .int p0, .int p1] [wd_Txp cs h r (fun k => if k = 3 then (some hp) else none) f a g] (fun _ => True) (fun ps => ∃ (f' : Nat → Int32) (a' : Nat → Nat → Int32), (ps = [wd_Txp cs h r (fun k => if k = 3 then (some hp) else none) f' a' g]) ∧ (TxOk (f' 4) (f' 5) (f' 8) (f' 9) (f' 17) (f' 21) (a' 2)) ∧ ((f' 9).toInt = (f 9).toInt) ∧ ((f' 17).toInt = (f 17).toInt) ∧ ((f' 21).toInt = (f 21).toInt) ∧ ((f' 15).toInt = (f 15).toInt) ∧ ((f' 20).toInt = (f 20).toInt) ∧ ((f' 4).toInt = (f 4).toInt)) := by
  refine px_enter (by decide) (Nat.le_of_ble_eq_true rfl) ?_
  intro p e s m below meth c A ls hAe S hr hlk hnm hA hT hX hw hl
  have hl : lv_has ls 3 [(0, .ref h), (1, .int p0), (2, .int p1)] := hl
  have lp0 := Int32.le_toInt p0
  have up0 := Int32.toInt_lt p0
  have lp1 := Int32.le_toInt p1
  have up1 := Int32.toInt_lt p1
  obtain ⟨lk, ⟨i2, i3⟩, ⟨i4, i5⟩, ⟨i6, i7⟩, i8, ⟨i9, i11⟩, i10, hrt⟩ := hinv0
  refine lv_aload_n S.x S.b d_Txp_moveWord_0 rfl (lv_at hl 0 rfl) ?_
  refine lv_aload_n S.x S.b d_Txp_moveWord_1 rfl (lv_at hl 0 rfl) ?_
  refine px_get S k_Txp hT hw 0 0 13 (v := .int (f 13)) rfl rfl rfl (by decide) m6_226 d_Txp_moveWord_2 ?_
  refine lv_iload_n S.x S.b d_Txp_moveWord_5 rfl (lv_at hl 1 rfl) ?_
  refine lv_iadd S.x S.b d_Txp_moveWord_6 ?_
  have lr1 := Int32.le_toInt (f 13)
  have ur1 := Int32.toInt_lt (f 13)
  refine lv_topi (fun z2 ez2 => ?_)
  have tz2 : z2.toInt = ((f 13).toInt + p0.toInt + 2147483648) % 4294967296 - 2147483648 := by rw [ez2]; exact i_add (f 13) p0
  have lz2 := Int32.le_toInt z2
  have uz2 := Int32.toInt_lt z2
  try replace tz2 : z2.toInt = (f 13).toInt + p0.toInt := by omega
  refine lv_iload_n S.x S.b d_Txp_moveWord_7 rfl (lv_at hl 2 rfl) ?_
  first | refine px_callv (pr := []) (px_runV (As := [.int z2, .int p1]) (rest := []) S (c_Txp_poke l D cs h r g hp f a z2 p1  (show TxOk (f 4) (f 5) (f 8) (f 9) (f 17) (f 21) (a 2) from ⟨lk, ⟨i2, i3⟩, ⟨i4, i5⟩, ⟨i6, i7⟩, i8, ⟨i9, i11⟩, i10, hrt⟩) _) hT (pr := []) (pcs := [wd_Txp cs h r (fun k => if k = 3 then (some hp) else none) f a g]) hw px_X.tt (px_recv hT hw 0 0 rfl rfl rfl) m8_129 m8_126 m8_128 ms_5_13 m1_35 q_Txp_poke ⟨Nat.le_of_ble_eq_true rfl, Nat.le_of_ble_eq_true rfl⟩ hl.1 rfl (Nat.le_of_ble_eq_true rfl) d_Txp_moveWord_8 ⟨Nat.le_of_ble_eq_true rfl, Nat.le_of_ble_eq_true rfl⟩) hw hA (fun p5 H locs hp5 hw => ?_) | refine px_callv (pr := []) (px_runV (As := [.int z2, .int p1]) (rest := []) S (c_Txp_poke l D cs h r g hp f a z2 p1  (show TxOk (f 4) (f 5) (f 8) (f 9) (f 17) (f 21) (a 2) from ⟨lk, ⟨by first | exact i2 | omega, by first | exact i3 | omega⟩, ⟨by first | exact i4 | omega, by first | exact i5 | omega⟩, ⟨by first | exact i6 | omega, by first | exact i7 | omega⟩, by first | exact i8 | omega, ⟨by first | exact i9 | omega, by first | exact i11 | omega⟩, by first | exact i10 | omega, hrt⟩) _) hT (pr := []) (pcs := [wd_Txp cs h r (fun k => if k = 3 then (some hp) else none) f a g]) hw px_X.tt (px_recv hT hw 0 0 rfl rfl rfl) m8_129 m8_126 m8_128 ms_5_13 m1_35 q_Txp_poke ⟨Nat.le_of_ble_eq_true rfl, Nat.le_of_ble_eq_true rfl⟩ hl.1 rfl (Nat.le_of_ble_eq_true rfl) d_Txp_moveWord_8 ⟨Nat.le_of_ble_eq_true rfl, Nat.le_of_ble_eq_true rfl⟩) hw hA (fun p5 H locs hp5 hw => ?_)
  obtain ⟨f3, a4, rfl, h13, e7, e8, e9, e10, e11, e12⟩ := hp5
  obtain ⟨lk, ⟨i2, i3⟩, ⟨i4, i5⟩, ⟨i6, i7⟩, i8, ⟨i9, i11⟩, i10, hrt⟩ := h13
  have e7 : (f3 9).toInt = (f 9).toInt := e7
  have e8 : (f3 17).toInt = (f 17).toInt := e8
  have e9 : (f3 21).toInt = (f 21).toInt := e9
  have e10 : (f3 15).toInt = (f 15).toInt := e10
  have e11 : (f3 20).toInt = (f 20).toInt := e11
  have e12 : (f3 4).toInt = (f 4).toInt := e12
  first | exact px_vret S hr hlk hAe hw (Nat.le_of_ble_eq_true rfl) (Nat.le_of_ble_eq_true rfl) (⟨f3, a4, rfl, (show TxOk (f3 4) (f3 5) (f3 8) (f3 9) (f3 17) (f3 21) (a4 2) from ⟨lk, ⟨i2, i3⟩, ⟨i4, i5⟩, ⟨i6, i7⟩, i8, ⟨i9, i11⟩, i10, hrt⟩), (show (f3 9).toInt = (f 9).toInt from e7), (show (f3 17).toInt = (f 17).toInt from e8), (show (f3 21).toInt = (f 21).toInt from e9), (show (f3 15).toInt = (f 15).toInt from e10), (show (f3 20).toInt = (f 20).toInt from e11), (show (f3 4).toInt = (f 4).toInt from e12)⟩) d_Txp_moveWord_11 | exact px_vret S hr hlk hAe hw (Nat.le_of_ble_eq_true rfl) (Nat.le_of_ble_eq_true rfl) (⟨f3, a4, rfl, (show TxOk (f3 4) (f3 5) (f3 8) (f3 9) (f3 17) (f3 21) (a4 2) from ⟨lk, ⟨by first | exact i2 | omega, by first | exact i3 | omega⟩, ⟨by first | exact i4 | omega, by first | exact i5 | omega⟩, ⟨by first | exact i6 | omega, by first | exact i7 | omega⟩, by first | exact i8 | omega, ⟨by first | exact i9 | omega, by first | exact i11 | omega⟩, by first | exact i10 | omega, hrt⟩), (show (f3 9).toInt = (f 9).toInt from by first | exact e7 | omega), (show (f3 17).toInt = (f 17).toInt from by first | exact e8 | omega), (show (f3 21).toInt = (f 21).toInt from by first | exact e9 | omega), (show (f3 15).toInt = (f 15).toInt from by first | exact e10 | omega), (show (f3 20).toInt = (f 20).toInt from by first | exact e11 | omega), (show (f3 4).toInt = (f 4).toInt from by first | exact e12 | omega)⟩) d_Txp_moveWord_11
