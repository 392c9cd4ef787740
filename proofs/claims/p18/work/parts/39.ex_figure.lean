theorem oz_7f8c2972df {a0 a2 : Int} {n1 : Nat} (h0 : a0 + 1 ≤ a2) (h1 : a2 ≤ 2049) : 0 + 1 ≤ ((2060 - a0 + 200 * (n1 : Int)).toNat) := by omega
theorem oz_1ad9261a62 {a0 a2 : Int} {n1 : Nat} (h0 : a0 + 1 ≤ a2) (h1 : a2 ≤ 2049) : 0 + 9 ≤ ((9 * (2060 - a0 + 200 * (n1 : Int))).toNat) := by omega
theorem oz_42f2cace8e {n0 : Nat}  : 1 + 1 ≤ (4 * n0 + 5) := by omega
theorem oz_6eeaff9437 {n0 : Nat}  : 8 + (4 + 11) + 12 ≤ (120 * n0 + 200) := by omega
theorem oz_9057dd1d0e {a0 a2 : Int} {n1 : Nat} (h0 : a0 + 1 ≤ a2) (h1 : a2 ≤ 2049) : (0 + 1) + 0 ≤ ((2060 - a0 + 200 * (n1 : Int)).toNat) := by omega
theorem oz_3f07a146c3 {a0 a2 : Int} {n1 : Nat} (h0 : a0 + 1 ≤ a2) (h1 : a2 ≤ 2049) : (0 + 9) + 0 ≤ ((9 * (2060 - a0 + 200 * (n1 : Int))).toNat) := by omega
theorem oz_4cdb73375f {a0 a1 : Int} (h0 : 0 ≤ a0 + 4294967296 * a1) (h1 : a1 = 0) : 0 ≤ a0 := by omega
theorem oz_329f0ac40c {a0 a1 : Int} (h0 : a0 ≤ 60 + 4294967296 * a1) (h1 : a1 = 0) : a0 ≤ 60 := by omega
theorem oz_5f82100d56 {n0 : Nat}  : 0 + 1 ≤ (4 * n0 + 5) := by omega
theorem oz_72bd2627d7 {n0 : Nat}  : 8 + (1 + 11) + 0 ≤ (120 * n0 + 200) := by omega
theorem oz_9907b82605 {n0 : Nat}  : 8 + (6 + 11) + 0 ≤ (120 * n0 + 200) := by omega
theorem oz_6ac330b90a {a0 a2 a3 : Int} {n1 : Nat} (h0 : a2 = a0) (h1 : a2 + 1 ≤ a3) (h2 : a3 ≤ 2049) : (0 + 1) ≤ ((2060 - a0 + 200 * (n1 : Int)).toNat) := by omega
theorem oz_8862ced228 {a0 a2 a3 : Int} {n1 : Nat} (h0 : a2 = a0) (h1 : a2 + 1 ≤ a3) (h2 : a3 ≤ 2049) : (0 + 9) ≤ ((9 * (2060 - a0 + 200 * (n1 : Int))).toNat) := by omega
theorem oz_8a16e2e4ef {a0 a1 a2 : Int} (h0 : a2 ≤ 19 + (4294967296 - 4294967296 * a0)) (h1 : 19 ≤ a2 + (4294967296 - 4294967296 * a0)) (h2 : a1 = 1) : a0 ≤ a1 := by omega
theorem oz_76c7b932c0 {a0 a1 a2 a3 : Int} (h0 : a3 ≤ 19 + (4294967296 - 4294967296 * a2)) (h1 : 19 ≤ a3 + (4294967296 - 4294967296 * a2)) (h2 : a0 = a1) : a0 ≤ a1 + 3000 - 3000 * a2 := by omega
theorem oz_1b53d9b858 {a0 a1 a2 : Int} (h0 : a0 = a1) (h1 : a2 = 1) : a0 ≤ a1 + 4294967296 * a2 := by omega
theorem oz_4eed9e5dae {a0 a1 a2 : Int} (h0 : a1 = a0) (h1 : a2 = 1) : a0 ≤ a1 + 4294967296 * a2 := by omega
theorem oz_ff21049710 {a0 a1 a2 : Int} (h0 : a1 = a0) (h1 : a2 = 1) : a0 + 1 ≤ a1 + a2 := by omega
theorem oz_ff546c03dc {a0 a1 a2 a3 a4 : Int} (h0 : a0 ≤ a1 + 4) (h1 : a2 = a3) (h2 : a4 = 1) : a0 ≤ a1 + 100 * (a2 - a3) + 100000 * a4 := by omega
theorem oz_cb5d37f9f1 {a0 a1 : Int} (h0 : a1 = a0) (h1 : 0 ≤ a1) : 0 ≤ a0 := by omega
theorem oz_5ec2f32d28  : 1 ≤ (1 : Int) := by omega
theorem oz_b0d2d0e650 {a0 : Int} {n1 : Nat} (h0 : 0 ≤ a0) : (1 : Int) ≤ a0 + 8 * (n1 : Int) + 1 := by omega
theorem oz_8b3a14fd6e {a0 a2 a3 a4 : Int} {n1 : Nat} (h0 : a2 - a0 - 1 ≤ 2100 * (a3 - a0)) (h1 : a3 + 1 ≤ a4) (h2 : a4 = a2) (h3 : a4 ≤ 2049) : (0 + 1) ≤ ((2060 - a0 + 200 * (n1 : Int)).toNat) := by omega
theorem oz_9e1ad11a85 {a0 a2 a3 a4 : Int} {n1 : Nat} (h0 : a2 - a0 - 1 ≤ 2100 * (a3 - a0)) (h1 : a3 + 1 ≤ a4) (h2 : a4 = a2) (h3 : a4 ≤ 2049) : (0 + 9) ≤ ((9 * (2060 - a0 + 200 * (n1 : Int))).toNat) := by omega
theorem oz_2745da4782 {a0 a1 a2 : Int} (h0 : 0 ≤ a2) (h1 : a0 = a1) : a0 ≤ a1 + 4294967296 * a2 := by omega
theorem oz_2c843e2a13 {a0 a1 a2 : Int} (h0 : 0 ≤ a2) (h1 : a1 = a0) : a0 ≤ a1 + 4294967296 * a2 := by omega
theorem m4_211 : Cond.classLink "HomeSystem$Expressions" 42 "HomeSystem$Operand" ∈ AL := AL_4 (List.mem_of_getElem? (i := 211) rfl) rfl
theorem m4_212 : Cond.instantiable "HomeSystem$Operand" 9 ∈ AL := AL_4 (List.mem_of_getElem? (i := 212) rfl) rfl
theorem m1_117 : Cond.fieldLink "HomeSystem$Expressions" 185 "HomeSystem$Tokens" "now" "I" ∈ AL := AL_1 (List.mem_of_getElem? (i := 117) rfl) rfl
theorem m4_213 : Cond.methodLink "HomeSystem$Expressions" 197 ⟨"HomeSystem$Operand", "<init>", "(III)V"⟩ ∈ AL := AL_4 (List.mem_of_getElem? (i := 213) rfl) rfl
theorem m4_215 : Cond.code ⟨"HomeSystem$Operand", "<init>", "(III)V"⟩ prog_6_method_1_code 4 (Option.none : Option Jvm.ClassFile.FieldType) ∈ AL := AL_4 (List.mem_of_getElem? (i := 215) rfl) rfl
theorem m4_214 : Cond.instanceMethod ⟨"HomeSystem$Operand", "<init>", "(III)V"⟩ ∈ AL := AL_4 (List.mem_of_getElem? (i := 214) rfl) rfl
theorem m4_210 : Cond.methodLink "HomeSystem$Expressions" 200 ⟨"HomeSystem$Tokens", "meaning", "()I"⟩ ∈ AL := AL_4 (List.mem_of_getElem? (i := 210) rfl) rfl
theorem m4_135 : Cond.code ⟨"HomeSystem$Tokens", "meaning", "()I"⟩ prog_12_method_25_code 1 (Option.some FieldType.int) ∈ AL := AL_4 (List.mem_of_getElem? (i := 135) rfl) rfl
theorem m4_134 : Cond.selects "HomeSystem$Tokens" ⟨"HomeSystem$Tokens", "meaning", "()I"⟩ ⟨"HomeSystem$Tokens", "meaning", "()I"⟩ ∈ AL := AL_4 (List.mem_of_getElem? (i := 134) rfl) rfl
theorem m4_133 : Cond.instanceMethod ⟨"HomeSystem$Tokens", "meaning", "()I"⟩ ∈ AL := AL_4 (List.mem_of_getElem? (i := 133) rfl) rfl
theorem m4_153 : Cond.methodLink "HomeSystem$Expressions" 27 ⟨"HomeSystem$Tokens", "kind", "()I"⟩ ∈ AL := AL_4 (List.mem_of_getElem? (i := 153) rfl) rfl
theorem m5_61 : Cond.methodLink "HomeSystem$Expressions" 206 ⟨"HomeSystem$Tokens", "fail", "()V"⟩ ∈ AL := AL_5 (List.mem_of_getElem? (i := 61) rfl) rfl
theorem m5_31 : Cond.methodLink "HomeSystem$Expressions" 203 ⟨"HomeSystem$Tokens", "step", "()V"⟩ ∈ AL := AL_5 (List.mem_of_getElem? (i := 31) rfl) rfl
/-- the object that was handed in is given back -/
def Rx (v : Option Nat) (h : Nat) : Prop := v = some h
theorem cur8 {x14 x15 : Int32} (h1 : 0 ≤ x15.toInt) (h2 : x15.toInt ≤ 1) (h : x15.toInt = 0 → 0 ≤ x14.toInt ∧ x14.toInt ≤ 60) : 0 ≤ x14.toInt + 4294967296 * x15.toInt ∧ x14.toInt ≤ 60 + 4294967296 * x15.toInt := by
  have := Int32.le_toInt x14
  have := Int32.toInt_lt x14
  omega
/-- a token that is neither the end nor a wrong one isn't the last -/
def Kd (v : Int32) (x y : Int) : Prop := v.toInt = 0 ∨ v.toInt = 19 ∨ x + 1 < y
theorem Kd.lt {v : Int32} {x y : Int} (h : Kd v x y) (h0 : v.toInt ≠ 0) (h1 : v.toInt ≠ 19) : x + 1 < y := by
  rcases h with h | h | h
  · exact absurd h h0
  · exact absurd h h1
  · exact h
def RkI (r k : Int32) : Prop := 1 ≤ r.toInt → 37 ≤ k.toInt
theorem rank_lin {k r : Int32} {x y f : Int} (hk : Kd k x y) (hr : RkI r k) (h19 : f = 1 → k.toInt = 19) (h10 : r.toInt ≤ 10) (hxy : x + 1 ≤ y) (hf0 : 0 ≤ f) (hf1 : f ≤ 1) : r.toInt ≤ 10 - 10 * f ∧ r.toInt ≤ 10 * (y - x - 1) := by
  by_cases h : 1 ≤ r.toInt
  · have h37 := hr h
    have hlt := hk.lt (by omega) (by omega)
    have hff : f = 0 := by
      by_cases e : f = 1
      · have := h19 e
        omega
      · omega
    omega
  · omega
abbrev b_Exp_parse : ByteArray := prog_3_method_4_code
def y_Exp_parse : MethodName := ⟨"HomeSystem$Expressions", "parse", "(I)LHomeSystem$Operand;"⟩
theorem d_Exp_parse_0 : decode b_Exp_parse 0 = .ok (.aload_n 0, 1) := by decide +kernel
theorem d_Exp_parse_1 : decode b_Exp_parse 1 = .ok (.invokevirtual 23, 3) := by decide +kernel
theorem d_Exp_parse_4 : decode b_Exp_parse 4 = .ok (.astore_n 2, 1) := by decide +kernel
theorem d_Exp_parse_5 : decode b_Exp_parse 5 = .ok (.iload_n 1, 1) := by decide +kernel
theorem d_Exp_parse_6 : decode b_Exp_parse 6 = .ok (.iconst (-1), 1) := by decide +kernel
theorem d_Exp_parse_7 : decode b_Exp_parse 7 = .ok (.if_icmp .ne 22, 3) := by decide +kernel
theorem d_Exp_parse_10 : decode b_Exp_parse 10 = .ok (.aload_n 0, 1) := by decide +kernel
theorem d_Exp_parse_11 : decode b_Exp_parse 11 = .ok (.getfield 9, 3) := by decide +kernel
theorem d_Exp_parse_14 : decode b_Exp_parse 14 = .ok (.invokevirtual 27, 3) := by decide +kernel
theorem d_Exp_parse_17 : decode b_Exp_parse 17 = .ok (.sipush 256, 3) := by decide +kernel
theorem d_Exp_parse_20 : decode b_Exp_parse 20 = .ok (.if_icmp .lt 9, 3) := by decide +kernel
theorem d_Exp_parse_23 : decode b_Exp_parse 23 = .ok (.aload_n 0, 1) := by decide +kernel
theorem d_Exp_parse_24 : decode b_Exp_parse 24 = .ok (.aload_n 2, 1) := by decide +kernel
theorem d_Exp_parse_25 : decode b_Exp_parse 25 = .ok (.invokevirtual 33, 3) := by decide +kernel
theorem d_Exp_parse_28 : decode b_Exp_parse 28 = .ok (.areturn, 1) := by decide +kernel
theorem d_Exp_parse_29 : decode b_Exp_parse 29 = .ok (.aload_n 0, 1) := by decide +kernel
theorem d_Exp_parse_30 : decode b_Exp_parse 30 = .ok (.getfield 9, 3) := by decide +kernel
theorem d_Exp_parse_33 : decode b_Exp_parse 33 = .ok (.invokevirtual 27, 3) := by decide +kernel
theorem d_Exp_parse_36 : decode b_Exp_parse 36 = .ok (.invokestatic 37, 3) := by decide +kernel
theorem d_Exp_parse_39 : decode b_Exp_parse 39 = .ok (.istore_n 3, 1) := by decide +kernel
theorem d_Exp_parse_40 : decode b_Exp_parse 40 = .ok (.iconst 0, 1) := by decide +kernel
theorem d_Exp_parse_41 : decode b_Exp_parse 41 = .ok (.istore 4, 2) := by decide +kernel
theorem d_Exp_parse_43 : decode b_Exp_parse 43 = .ok (.iload 4, 2) := by decide +kernel
theorem d_Exp_parse_45 : decode b_Exp_parse 45 = .ok (.sipush 2048, 3) := by decide +kernel
theorem d_Exp_parse_48 : decode b_Exp_parse 48 = .ok (.if_icmp .ge 107, 3) := by decide +kernel
theorem d_Exp_parse_51 : decode b_Exp_parse 51 = .ok (.iload_n 3, 1) := by decide +kernel
theorem d_Exp_parse_52 : decode b_Exp_parse 52 = .ok (.ifCond .le 103, 3) := by decide +kernel
theorem d_Exp_parse_55 : decode b_Exp_parse 55 = .ok (.iload_n 3, 1) := by decide +kernel
theorem d_Exp_parse_56 : decode b_Exp_parse 56 = .ok (.iload_n 1, 1) := by decide +kernel
theorem d_Exp_parse_57 : decode b_Exp_parse 57 = .ok (.if_icmp .lt 98, 3) := by decide +kernel
theorem d_Exp_parse_60 : decode b_Exp_parse 60 = .ok (.aload_n 0, 1) := by decide +kernel
theorem d_Exp_parse_61 : decode b_Exp_parse 61 = .ok (.getfield 9, 3) := by decide +kernel
theorem d_Exp_parse_64 : decode b_Exp_parse 64 = .ok (.invokevirtual 27, 3) := by decide +kernel
theorem d_Exp_parse_67 : decode b_Exp_parse 67 = .ok (.istore 5, 2) := by decide +kernel
theorem d_Exp_parse_69 : decode b_Exp_parse 69 = .ok (.aload_n 0, 1) := by decide +kernel
theorem d_Exp_parse_70 : decode b_Exp_parse 70 = .ok (.getfield 9, 3) := by decide +kernel
theorem d_Exp_parse_73 : decode b_Exp_parse 73 = .ok (.aload_n 2, 1) := by decide +kernel
theorem d_Exp_parse_74 : decode b_Exp_parse 74 = .ok (.getfield 41, 3) := by decide +kernel
theorem d_Exp_parse_77 : decode b_Exp_parse 77 = .ok (.invokevirtual 47, 3) := by decide +kernel
theorem d_Exp_parse_80 : decode b_Exp_parse 80 = .ok (.aload_n 0, 1) := by decide +kernel
theorem d_Exp_parse_81 : decode b_Exp_parse 81 = .ok (.aload_n 2, 1) := by decide +kernel
theorem d_Exp_parse_82 : decode b_Exp_parse 82 = .ok (.invokevirtual 51, 3) := by decide +kernel
theorem d_Exp_parse_85 : decode b_Exp_parse 85 = .ok (.aload_n 0, 1) := by decide +kernel
theorem d_Exp_parse_86 : decode b_Exp_parse 86 = .ok (.iload 5, 2) := by decide +kernel
theorem d_Exp_parse_88 : decode b_Exp_parse 88 = .ok (.invokevirtual 55, 3) := by decide +kernel
theorem d_Exp_parse_91 : decode b_Exp_parse 91 = .ok (.istore 6, 2) := by decide +kernel
theorem d_Exp_parse_93 : decode b_Exp_parse 93 = .ok (.aload_n 0, 1) := by decide +kernel
theorem d_Exp_parse_94 : decode b_Exp_parse 94 = .ok (.iload_n 3, 1) := by decide +kernel
theorem d_Exp_parse_95 : decode b_Exp_parse 95 = .ok (.iconst 1, 1) := by decide +kernel
theorem d_Exp_parse_96 : decode b_Exp_parse 96 = .ok (.iadd, 1) := by decide +kernel
theorem d_Exp_parse_97 : decode b_Exp_parse 97 = .ok (.invokevirtual 58, 3) := by decide +kernel
theorem d_Exp_parse_100 : decode b_Exp_parse 100 = .ok (.astore 7, 2) := by decide +kernel
theorem d_Exp_parse_102 : decode b_Exp_parse 102 = .ok (.aload_n 0, 1) := by decide +kernel
theorem d_Exp_parse_103 : decode b_Exp_parse 103 = .ok (.aload 7, 2) := by decide +kernel
theorem d_Exp_parse_105 : decode b_Exp_parse 105 = .ok (.invokevirtual 51, 3) := by decide +kernel
theorem d_Exp_parse_108 : decode b_Exp_parse 108 = .ok (.aload_n 0, 1) := by decide +kernel
theorem d_Exp_parse_109 : decode b_Exp_parse 109 = .ok (.getfield 9, 3) := by decide +kernel
theorem d_Exp_parse_112 : decode b_Exp_parse 112 = .ok (.invokevirtual 62, 3) := by decide +kernel
theorem d_Exp_parse_115 : decode b_Exp_parse 115 = .ok (.aload_n 0, 1) := by decide +kernel
theorem d_Exp_parse_116 : decode b_Exp_parse 116 = .ok (.iload 5, 2) := by decide +kernel
theorem d_Exp_parse_118 : decode b_Exp_parse 118 = .ok (.iload 6, 2) := by decide +kernel
theorem d_Exp_parse_120 : decode b_Exp_parse 120 = .ok (.invokevirtual 65, 3) := by decide +kernel
theorem d_Exp_parse_123 : decode b_Exp_parse 123 = .ok (.aload_n 2, 1) := by decide +kernel
theorem d_Exp_parse_124 : decode b_Exp_parse 124 = .ok (.iload 5, 2) := by decide +kernel
theorem d_Exp_parse_126 : decode b_Exp_parse 126 = .ok (.aload 7, 2) := by decide +kernel
theorem d_Exp_parse_128 : decode b_Exp_parse 128 = .ok (.invokestatic 69, 3) := by decide +kernel
theorem d_Exp_parse_131 : decode b_Exp_parse 131 = .ok (.aload_n 2, 1) := by decide +kernel
theorem d_Exp_parse_132 : decode b_Exp_parse 132 = .ok (.iload_n 3, 1) := by decide +kernel
theorem d_Exp_parse_133 : decode b_Exp_parse 133 = .ok (.aload 7, 2) := by decide +kernel
theorem d_Exp_parse_135 : decode b_Exp_parse 135 = .ok (.invokestatic 73, 3) := by decide +kernel
theorem d_Exp_parse_138 : decode b_Exp_parse 138 = .ok (.aload_n 0, 1) := by decide +kernel
theorem d_Exp_parse_139 : decode b_Exp_parse 139 = .ok (.getfield 9, 3) := by decide +kernel
theorem d_Exp_parse_142 : decode b_Exp_parse 142 = .ok (.invokevirtual 27, 3) := by decide +kernel
theorem d_Exp_parse_145 : decode b_Exp_parse 145 = .ok (.invokestatic 37, 3) := by decide +kernel
theorem d_Exp_parse_148 : decode b_Exp_parse 148 = .ok (.istore_n 3, 1) := by decide +kernel
theorem d_Exp_parse_149 : decode b_Exp_parse 149 = .ok (.iinc 4 1, 3) := by decide +kernel
theorem d_Exp_parse_152 : decode b_Exp_parse 152 = .ok (.goto (-109), 3) := by decide +kernel
theorem d_Exp_parse_155 : decode b_Exp_parse 155 = .ok (.iload_n 1, 1) := by decide +kernel
theorem d_Exp_parse_156 : decode b_Exp_parse 156 = .ok (.ifCond .gt 20, 3) := by decide +kernel
theorem d_Exp_parse_159 : decode b_Exp_parse 159 = .ok (.aload_n 0, 1) := by decide +kernel
theorem d_Exp_parse_160 : decode b_Exp_parse 160 = .ok (.getfield 9, 3) := by decide +kernel
theorem d_Exp_parse_163 : decode b_Exp_parse 163 = .ok (.invokevirtual 27, 3) := by decide +kernel
theorem d_Exp_parse_166 : decode b_Exp_parse 166 = .ok (.bipush 63, 2) := by decide +kernel
theorem d_Exp_parse_168 : decode b_Exp_parse 168 = .ok (.if_icmp .ne 8, 3) := by decide +kernel
theorem d_Exp_parse_171 : decode b_Exp_parse 171 = .ok (.aload_n 0, 1) := by decide +kernel
theorem d_Exp_parse_172 : decode b_Exp_parse 172 = .ok (.aload_n 2, 1) := by decide +kernel
theorem d_Exp_parse_173 : decode b_Exp_parse 173 = .ok (.invokevirtual 76, 3) := by decide +kernel
theorem d_Exp_parse_176 : decode b_Exp_parse 176 = .ok (.aload_n 2, 1) := by decide +kernel
theorem d_Exp_parse_177 : decode b_Exp_parse 177 = .ok (.areturn, 1) := by decide +kernel
theorem q_Exp_parse : px_y y_Exp_parse 1 := by unfold px_y; decide +kernel
abbrev b_Exp_operand : ByteArray := prog_3_method_16_code
def y_Exp_operand : MethodName := ⟨"HomeSystem$Expressions", "operand", "()LHomeSystem$Operand;"⟩
theorem d_Exp_operand_0 : decode b_Exp_operand 0 = .ok (.aload_n 0, 1) := by decide +kernel
theorem d_Exp_operand_1 : decode b_Exp_operand 1 = .ok (.getfield 9, 3) := by decide +kernel
theorem d_Exp_operand_4 : decode b_Exp_operand 4 = .ok (.invokevirtual 27, 3) := by decide +kernel
theorem d_Exp_operand_7 : decode b_Exp_operand 7 = .ok (.istore_n 1, 1) := by decide +kernel
theorem d_Exp_operand_8 : decode b_Exp_operand 8 = .ok (.iload_n 1, 1) := by decide +kernel
theorem d_Exp_operand_9 : decode b_Exp_operand 9 = .ok (.invokestatic 154, 3) := by decide +kernel
theorem d_Exp_operand_12 : decode b_Exp_operand 12 = .ok (.ifCond .eq 9, 3) := by decide +kernel
theorem d_Exp_operand_15 : decode b_Exp_operand 15 = .ok (.aload_n 0, 1) := by decide +kernel
theorem d_Exp_operand_16 : decode b_Exp_operand 16 = .ok (.iload_n 1, 1) := by decide +kernel
theorem d_Exp_operand_17 : decode b_Exp_operand 17 = .ok (.invokevirtual 158, 3) := by decide +kernel
theorem d_Exp_operand_20 : decode b_Exp_operand 20 = .ok (.areturn, 1) := by decide +kernel
theorem d_Exp_operand_21 : decode b_Exp_operand 21 = .ok (.iload_n 1, 1) := by decide +kernel
theorem d_Exp_operand_22 : decode b_Exp_operand 22 = .ok (.bipush 16, 2) := by decide +kernel
theorem d_Exp_operand_24 : decode b_Exp_operand 24 = .ok (.if_icmp .ne 13, 3) := by decide +kernel
theorem d_Exp_operand_27 : decode b_Exp_operand 27 = .ok (.aload_n 0, 1) := by decide +kernel
theorem d_Exp_operand_28 : decode b_Exp_operand 28 = .ok (.getfield 9, 3) := by decide +kernel
theorem d_Exp_operand_31 : decode b_Exp_operand 31 = .ok (.invokevirtual 161, 3) := by decide +kernel
theorem d_Exp_operand_34 : decode b_Exp_operand 34 = .ok (.goto 4, 3) := by decide +kernel
theorem d_Exp_operand_37 : decode b_Exp_operand 37 = .ok (.iconst 0, 1) := by decide +kernel
theorem d_Exp_operand_38 : decode b_Exp_operand 38 = .ok (.istore_n 2, 1) := by decide +kernel
theorem d_Exp_operand_39 : decode b_Exp_operand 39 = .ok (.aconst_null, 1) := by decide +kernel
theorem d_Exp_operand_40 : decode b_Exp_operand 40 = .ok (.astore_n 3, 1) := by decide +kernel
theorem d_Exp_operand_41 : decode b_Exp_operand 41 = .ok (.iload_n 1, 1) := by decide +kernel
theorem d_Exp_operand_42 : decode b_Exp_operand 42 = .ok (.bipush 40, 2) := by decide +kernel
theorem d_Exp_operand_44 : decode b_Exp_operand 44 = .ok (.if_icmp .ne 11, 3) := by decide +kernel
theorem d_Exp_operand_47 : decode b_Exp_operand 47 = .ok (.aload_n 0, 1) := by decide +kernel
theorem d_Exp_operand_48 : decode b_Exp_operand 48 = .ok (.invokevirtual 164, 3) := by decide +kernel
theorem d_Exp_operand_51 : decode b_Exp_operand 51 = .ok (.astore_n 3, 1) := by decide +kernel
theorem d_Exp_operand_52 : decode b_Exp_operand 52 = .ok (.goto 49, 3) := by decide +kernel
theorem d_Exp_operand_55 : decode b_Exp_operand 55 = .ok (.iload_n 2, 1) := by decide +kernel
theorem d_Exp_operand_56 : decode b_Exp_operand 56 = .ok (.bipush 40, 2) := by decide +kernel
theorem d_Exp_operand_58 : decode b_Exp_operand 58 = .ok (.if_icmp .ne 11, 3) := by decide +kernel
theorem d_Exp_operand_61 : decode b_Exp_operand 61 = .ok (.aload_n 0, 1) := by decide +kernel
theorem d_Exp_operand_62 : decode b_Exp_operand 62 = .ok (.invokevirtual 167, 3) := by decide +kernel
theorem d_Exp_operand_65 : decode b_Exp_operand 65 = .ok (.astore_n 3, 1) := by decide +kernel
theorem d_Exp_operand_66 : decode b_Exp_operand 66 = .ok (.goto 35, 3) := by decide +kernel
theorem d_Exp_operand_69 : decode b_Exp_operand 69 = .ok (.iload_n 2, 1) := by decide +kernel
theorem d_Exp_operand_70 : decode b_Exp_operand 70 = .ok (.bipush 91, 2) := by decide +kernel
theorem d_Exp_operand_72 : decode b_Exp_operand 72 = .ok (.if_icmp .ne 11, 3) := by decide +kernel
theorem d_Exp_operand_75 : decode b_Exp_operand 75 = .ok (.aload_n 0, 1) := by decide +kernel
theorem d_Exp_operand_76 : decode b_Exp_operand 76 = .ok (.invokevirtual 169, 3) := by decide +kernel
theorem d_Exp_operand_79 : decode b_Exp_operand 79 = .ok (.astore_n 3, 1) := by decide +kernel
theorem d_Exp_operand_80 : decode b_Exp_operand 80 = .ok (.goto 21, 3) := by decide +kernel
theorem d_Exp_operand_83 : decode b_Exp_operand 83 = .ok (.iload_n 1, 1) := by decide +kernel
theorem d_Exp_operand_84 : decode b_Exp_operand 84 = .ok (.bipush 16, 2) := by decide +kernel
theorem d_Exp_operand_86 : decode b_Exp_operand 86 = .ok (.if_icmp .ne 10, 3) := by decide +kernel
theorem d_Exp_operand_89 : decode b_Exp_operand 89 = .ok (.aload_n 0, 1) := by decide +kernel
theorem d_Exp_operand_90 : decode b_Exp_operand 90 = .ok (.invokevirtual 172, 3) := by decide +kernel
theorem d_Exp_operand_93 : decode b_Exp_operand 93 = .ok (.goto 7, 3) := by decide +kernel
theorem d_Exp_operand_96 : decode b_Exp_operand 96 = .ok (.aload_n 0, 1) := by decide +kernel
theorem d_Exp_operand_97 : decode b_Exp_operand 97 = .ok (.invokevirtual 175, 3) := by decide +kernel
theorem d_Exp_operand_100 : decode b_Exp_operand 100 = .ok (.astore_n 3, 1) := by decide +kernel
theorem d_Exp_operand_101 : decode b_Exp_operand 101 = .ok (.aload_n 0, 1) := by decide +kernel
theorem d_Exp_operand_102 : decode b_Exp_operand 102 = .ok (.getfield 9, 3) := by decide +kernel
theorem d_Exp_operand_105 : decode b_Exp_operand 105 = .ok (.invokevirtual 27, 3) := by decide +kernel
theorem d_Exp_operand_108 : decode b_Exp_operand 108 = .ok (.istore 4, 2) := by decide +kernel
theorem d_Exp_operand_110 : decode b_Exp_operand 110 = .ok (.iload 4, 2) := by decide +kernel
theorem d_Exp_operand_112 : decode b_Exp_operand 112 = .ok (.sipush 138, 3) := by decide +kernel
theorem d_Exp_operand_115 : decode b_Exp_operand 115 = .ok (.if_icmp .eq 11, 3) := by decide +kernel
theorem d_Exp_operand_118 : decode b_Exp_operand 118 = .ok (.iload 4, 2) := by decide +kernel
theorem d_Exp_operand_120 : decode b_Exp_operand 120 = .ok (.sipush 139, 3) := by decide +kernel
theorem d_Exp_operand_123 : decode b_Exp_operand 123 = .ok (.if_icmp .ne 39, 3) := by decide +kernel
theorem d_Exp_operand_126 : decode b_Exp_operand 126 = .ok (.aload_n 0, 1) := by decide +kernel
theorem d_Exp_operand_127 : decode b_Exp_operand 127 = .ok (.getfield 9, 3) := by decide +kernel
theorem d_Exp_operand_130 : decode b_Exp_operand 130 = .ok (.aload_n 3, 1) := by decide +kernel
theorem d_Exp_operand_131 : decode b_Exp_operand 131 = .ok (.getfield 41, 3) := by decide +kernel
theorem d_Exp_operand_134 : decode b_Exp_operand 134 = .ok (.invokevirtual 178, 3) := by decide +kernel
theorem d_Exp_operand_137 : decode b_Exp_operand 137 = .ok (.aload_n 0, 1) := by decide +kernel
theorem d_Exp_operand_138 : decode b_Exp_operand 138 = .ok (.aload_n 3, 1) := by decide +kernel
theorem d_Exp_operand_139 : decode b_Exp_operand 139 = .ok (.iload 4, 2) := by decide +kernel
theorem d_Exp_operand_141 : decode b_Exp_operand 141 = .ok (.sipush 139, 3) := by decide +kernel
theorem d_Exp_operand_144 : decode b_Exp_operand 144 = .ok (.if_icmp .ne 7, 3) := by decide +kernel
theorem d_Exp_operand_147 : decode b_Exp_operand 147 = .ok (.iconst 1, 1) := by decide +kernel
theorem d_Exp_operand_148 : decode b_Exp_operand 148 = .ok (.goto 4, 3) := by decide +kernel
theorem d_Exp_operand_151 : decode b_Exp_operand 151 = .ok (.iconst 0, 1) := by decide +kernel
theorem d_Exp_operand_152 : decode b_Exp_operand 152 = .ok (.iconst 2, 1) := by decide +kernel
theorem d_Exp_operand_153 : decode b_Exp_operand 153 = .ok (.ior, 1) := by decide +kernel
theorem d_Exp_operand_154 : decode b_Exp_operand 154 = .ok (.aload_n 0, 1) := by decide +kernel
theorem d_Exp_operand_155 : decode b_Exp_operand 155 = .ok (.aload_n 3, 1) := by decide +kernel
theorem d_Exp_operand_156 : decode b_Exp_operand 156 = .ok (.invokevirtual 150, 3) := by decide +kernel
theorem d_Exp_operand_159 : decode b_Exp_operand 159 = .ok (.invokevirtual 181, 3) := by decide +kernel
theorem d_Exp_operand_162 : decode b_Exp_operand 162 = .ok (.aload_n 3, 1) := by decide +kernel
theorem d_Exp_operand_163 : decode b_Exp_operand 163 = .ok (.areturn, 1) := by decide +kernel
theorem q_Exp_operand : px_y y_Exp_operand 0 := by unfold px_y; decide +kernel
def ParseC (l : Launch) (D : va_G) (cs : Nat → ClassId) (lv : Nat) : Prop := ∀ (he : Nat) (re : Nat → Nat) (eo : Nat → Option Nat) (ef : Nat → Int32) (ea : Nat → Nat → Int32) (eg : Nat → Nat → Option Nat) (rt : Nat → Nat) (ot : Nat → Option Nat) (ta : Nat → Nat → Int32) (tg : Nat → Nat → Option Nat) (tf : Nat → Int32) (rp : Nat → Nat) (of : Option Nat) (cn : Nat) (fp : Nat → Int32) (cd : Nat → Int32) (rn : Nat → Nat) (no : Nat → Option Nat) (na : Nat → Nat → Int32) (ng : Nat → Nat → Option Nat) (own : Bool) (lq : Nat) (lc : Nat) (fq : Nat) (fc : Nat) (P : va_W) (nf : Nat → Int32) (lf : Nat → Int32) (lg : Nat → Option Nat) (ff : Nat → Int32) (fg : Nat → Option Nat) (p0 : Int32) (hinv0 : CurOk (tf 10) (tf 13) (tf 14) (tf 15) (tf 17) (ta 0)) (hinv1 : NmOk P own (lf 1) (ff 1) lc fc lg fg) (g0 : cn % 4 = 0) (g1 : cn ≤ 100000) (g2 : 61 ≤ (tf 14).toInt + (lv : Int) + 4294967296 * (tf 15).toInt) (g3 : lv ≤ 61) (hpk : Pok cn (fp 3) cd), MgR l y_Exp_parse b_Exp_parse 8 (.object "HomeSystem$Operand") D cs (4 * lv + 7) (120 * lv + 280) (((2060 - (tf 13).toInt + 200 * (lv : Int)).toNat)) (((9 * (2060 - (tf 13).toInt + 200 * (lv : Int))).toNat)) [.ref he, .int p0] [wd_Exp cs he re eo ef ea eg, wd_Tok cs (re 0) rt ot tf ta tg, wd_Prg cs (re 2) rp (fun k => if k = 2 then of else none) fp (fun _ _ => 0) (fun _ _ => none), [((rp 1), .inl (cs 0, cn, .inl cd))], wd_Nam cs (re 1) rn no nf na ng, wd_Lst cs (rn 0) (fun _ => 0) (fun k => if k = 0 then (some lq) else none) lf (fun _ _ => 0) (fun _ _ => none), lA cs own lq lc lg, wd_Lst cs (rn 1) (fun _ => 0) (fun k => if k = 0 then (some fq) else none) ff (fun _ _ => 0) (fun _ _ => none), [(fq, .inl (cs 12, fc, .inr (.inr (.inr (.inr fg)))))], P] (fun _ => True) (fun v ps => ∃ (tf' : Nat → Int32) (fp' : Nat → Int32) (cd' : Nat → Int32) (hx' : Nat) (ox' : Option Nat) (fx' : Nat → Int32), (ps.1 = [wd_Exp cs he re eo ef ea eg, wd_Tok cs (re 0) rt ot tf' ta tg, wd_Prg cs (re 2) rp (fun k => if k = 2 then of else none) fp' (fun _ _ => 0) (fun _ _ => none), [((rp 1), .inl (cs 0, cn, .inl cd'))], wd_Nam cs (re 1) rn no nf na ng, wd_Lst cs (rn 0) (fun _ => 0) (fun k => if k = 0 then (some lq) else none) lf (fun _ _ => 0) (fun _ _ => none), lA cs own lq lc lg, wd_Lst cs (rn 1) (fun _ => 0) (fun k => if k = 0 then (some fq) else none) ff (fun _ _ => 0) (fun _ _ => none), [(fq, .inl (cs 12, fc, .inr (.inr (.inr (.inr fg)))))], P, wd_Opd cs hx' (fun _ => 0) (fun k => if k = 4 then ox' else none) fx' (fun _ _ => 0) (fun _ _ => none)]) ∧ (v = some hx') ∧ (CurOk (tf' 10) (tf' 13) (tf' 14) (tf' 15) (tf' 17) (ta 0)) ∧ ((tf' 10).toInt = (tf 10).toInt) ∧ ((tf 15).toInt ≤ (tf' 15).toInt) ∧ ((tf 13).toInt ≤ (tf' 13).toInt) ∧ ((tf' 13).toInt ≤ (tf 13).toInt + 3000 - 3000 * (tf 15).toInt) ∧ ((tf' 14).toInt ≤ (tf 14).toInt + 4294967296 * (tf' 15).toInt) ∧ ((tf 14).toInt ≤ (tf' 14).toInt + 4294967296 * (tf' 15).toInt) ∧ ((tf 13).toInt + 1 ≤ (tf' 13).toInt + (tf' 15).toInt) ∧ (Prel cn (fp 3) cd (fp' 3) cd') ∧ ((fp' 3).toInt ≤ (fp 3).toInt + 100 * ((tf' 13).toInt - (tf 13).toInt) + 100000 * (tf' 15).toInt) ∧ (0 ≤ (fx' 0).toInt) ∧ (0 ≤ (fx' 3).toInt) ∧ (1 ≤ (fx' 5).toInt) ∧ ((fx' 5).toInt ≤ (tf' 13).toInt + 8 * (lv : Int) + 4) ∧ (Sy P ox') ∧ (R_ex_parse (RL_ex_parse lv) (RL_ex_operand lv) ta cn na own P lf lg ff fg p0 tf fp cd tf' fp' cd' ox' fx') ∧ ((ps.2.1 : Int) ≤ (tf' 13).toInt - (tf 13).toInt + 3 * (lv : Int) + 1) ∧ ((ps.2.1 : Int) ≤ (tf' 13).toInt - (tf 13).toInt + 200 * (tf' 15).toInt) ∧ ((ps.2.1 : Int) ≤ 5001 - 5000 * (tf 15).toInt) ∧ (ps.2.2 ≤ 9 * ps.2.1))
def OperC (l : Launch) (D : va_G) (cs : Nat → ClassId) (lv : Nat) : Prop := ∀ (he : Nat) (re : Nat → Nat) (eo : Nat → Option Nat) (ef : Nat → Int32) (ea : Nat → Nat → Int32) (eg : Nat → Nat → Option Nat) (rt : Nat → Nat) (ot : Nat → Option Nat) (ta : Nat → Nat → Int32) (tg : Nat → Nat → Option Nat) (tf : Nat → Int32) (rp : Nat → Nat) (of : Option Nat) (cn : Nat) (fp : Nat → Int32) (cd : Nat → Int32) (rn : Nat → Nat) (no : Nat → Option Nat) (na : Nat → Nat → Int32) (ng : Nat → Nat → Option Nat) (own : Bool) (lq : Nat) (lc : Nat) (fq : Nat) (fc : Nat) (P : va_W) (nf : Nat → Int32) (lf : Nat → Int32) (lg : Nat → Option Nat) (ff : Nat → Int32) (fg : Nat → Option Nat) (hinv0 : CurOk (tf 10) (tf 13) (tf 14) (tf 15) (tf 17) (ta 0)) (hinv1 : NmOk P own (lf 1) (ff 1) lc fc lg fg) (g0 : cn % 4 = 0) (g1 : cn ≤ 100000) (g2 : 61 ≤ (tf 14).toInt + (lv : Int) + 4294967296 * (tf 15).toInt) (g3 : lv ≤ 61) (hpk : Pok cn (fp 3) cd), MgR l y_Exp_operand b_Exp_operand 5 (.object "HomeSystem$Operand") D cs (4 * lv + 6) (120 * lv + 240) (((2060 - (tf 13).toInt + 200 * (lv : Int)).toNat)) (((9 * (2060 - (tf 13).toInt + 200 * (lv : Int))).toNat)) [.ref he] [wd_Exp cs he re eo ef ea eg, wd_Tok cs (re 0) rt ot tf ta tg, wd_Prg cs (re 2) rp (fun k => if k = 2 then of else none) fp (fun _ _ => 0) (fun _ _ => none), [((rp 1), .inl (cs 0, cn, .inl cd))], wd_Nam cs (re 1) rn no nf na ng, wd_Lst cs (rn 0) (fun _ => 0) (fun k => if k = 0 then (some lq) else none) lf (fun _ _ => 0) (fun _ _ => none), lA cs own lq lc lg, wd_Lst cs (rn 1) (fun _ => 0) (fun k => if k = 0 then (some fq) else none) ff (fun _ _ => 0) (fun _ _ => none), [(fq, .inl (cs 12, fc, .inr (.inr (.inr (.inr fg)))))], P] (fun _ => True) (fun v ps => ∃ (tf' : Nat → Int32) (fp' : Nat → Int32) (cd' : Nat → Int32) (hx' : Nat) (ox' : Option Nat) (fx' : Nat → Int32), (ps.1 = [wd_Exp cs he re eo ef ea eg, wd_Tok cs (re 0) rt ot tf' ta tg, wd_Prg cs (re 2) rp (fun k => if k = 2 then of else none) fp' (fun _ _ => 0) (fun _ _ => none), [((rp 1), .inl (cs 0, cn, .inl cd'))], wd_Nam cs (re 1) rn no nf na ng, wd_Lst cs (rn 0) (fun _ => 0) (fun k => if k = 0 then (some lq) else none) lf (fun _ _ => 0) (fun _ _ => none), lA cs own lq lc lg, wd_Lst cs (rn 1) (fun _ => 0) (fun k => if k = 0 then (some fq) else none) ff (fun _ _ => 0) (fun _ _ => none), [(fq, .inl (cs 12, fc, .inr (.inr (.inr (.inr fg)))))], P, wd_Opd cs hx' (fun _ => 0) (fun k => if k = 4 then ox' else none) fx' (fun _ _ => 0) (fun _ _ => none)]) ∧ (v = some hx') ∧ (CurOk (tf' 10) (tf' 13) (tf' 14) (tf' 15) (tf' 17) (ta 0)) ∧ ((tf' 10).toInt = (tf 10).toInt) ∧ ((tf 15).toInt ≤ (tf' 15).toInt) ∧ ((tf 13).toInt ≤ (tf' 13).toInt) ∧ ((tf' 13).toInt ≤ (tf 13).toInt + 3000 - 3000 * (tf 15).toInt) ∧ ((tf' 14).toInt ≤ (tf 14).toInt + 4294967296 * (tf' 15).toInt) ∧ ((tf 14).toInt ≤ (tf' 14).toInt + 4294967296 * (tf' 15).toInt) ∧ ((tf 13).toInt + 1 ≤ (tf' 13).toInt + (tf' 15).toInt) ∧ (Prel cn (fp 3) cd (fp' 3) cd') ∧ ((fp' 3).toInt ≤ (fp 3).toInt + 100 * ((tf' 13).toInt - (tf 13).toInt) + 100000 * (tf' 15).toInt) ∧ (0 ≤ (fx' 0).toInt) ∧ (0 ≤ (fx' 3).toInt) ∧ (1 ≤ (fx' 5).toInt) ∧ ((fx' 5).toInt ≤ (tf' 13).toInt + 8 * (lv : Int) + 2) ∧ (Sy P ox') ∧ (R_ex_operand (RL_ex_parse lv) (RL_ex_operand lv) ta cn na own P lf lg ff fg tf fp cd tf' fp' cd' ox' fx') ∧ ((ps.2.1 : Int) ≤ (tf' 13).toInt - (tf 13).toInt + 3 * (lv : Int) + 1) ∧ ((ps.2.1 : Int) ≤ (tf' 13).toInt - (tf 13).toInt + 200 * (tf' 15).toInt) ∧ ((ps.2.1 : Int) ≤ 5001 - 5000 * (tf 15).toInt) ∧ (ps.2.2 ≤ 9 * ps.2.1))
def LvP (l : Launch) (D : va_G) (cs : Nat → ClassId) (lv : Nat) : Prop := 1 ≤ lv → ParseC l D cs (lv - 1)
def LvO (l : Launch) (D : va_G) (cs : Nat → ClassId) (lv : Nat) : Prop := 1 ≤ lv → OperC l D cs (lv - 1)
theorem LvP.go {l : Launch} {D : va_G} {cs : Nat → ClassId} {lv : Nat} (h : LvP l D cs lv) (k : 1 ≤ lv) : ParseC l D cs (lv - 1) := h k
theorem LvO.go {l : Launch} {D : va_G} {cs : Nat → ClassId} {lv : Nat} (h : LvO l D cs lv) (k : 1 ≤ lv) : OperC l D cs (lv - 1) := h k
theorem lvp_0 {l : Launch} {D : va_G} {cs : Nat → ClassId} : LvP l D cs 0 := fun h => absurd h (by decide)
theorem lvo_0 {l : Launch} {D : va_G} {cs : Nat → ClassId} : LvO l D cs 0 := fun h => absurd h (by decide)
theorem lvp_s {l : Launch} {D : va_G} {cs : Nat → ClassId} {n : Nat} (h : ParseC l D cs n) : LvP l D cs (n + 1) := fun _ => h
theorem lvo_s {l : Launch} {D : va_G} {cs : Nat → ClassId} {n : Nat} (h : OperC l D cs n) : LvO l D cs (n + 1) := fun _ => h
abbrev b_Exp_figure : ByteArray := prog_3_method_20_code
def y_Exp_figure : MethodName := ⟨"HomeSystem$Expressions", "figure", "()LHomeSystem$Operand;"⟩
theorem d_Exp_figure_0 : decode b_Exp_figure 0 = .ok (.new 42, 3) := by decide +kernel
theorem d_Exp_figure_3 : decode b_Exp_figure 3 = .ok (.dup, 1) := by decide +kernel
theorem d_Exp_figure_4 : decode b_Exp_figure 4 = .ok (.aload_n 0, 1) := by decide +kernel
theorem d_Exp_figure_5 : decode b_Exp_figure 5 = .ok (.getfield 9, 3) := by decide +kernel
theorem d_Exp_figure_8 : decode b_Exp_figure 8 = .ok (.getfield 185, 3) := by decide +kernel
theorem d_Exp_figure_11 : decode b_Exp_figure 11 = .ok (.iconst 0, 1) := by decide +kernel
theorem d_Exp_figure_12 : decode b_Exp_figure 12 = .ok (.iconst 0, 1) := by decide +kernel
theorem d_Exp_figure_13 : decode b_Exp_figure 13 = .ok (.invokespecial 197, 3) := by decide +kernel
theorem d_Exp_figure_16 : decode b_Exp_figure 16 = .ok (.astore_n 1, 1) := by decide +kernel
theorem d_Exp_figure_17 : decode b_Exp_figure 17 = .ok (.aload_n 1, 1) := by decide +kernel
theorem d_Exp_figure_18 : decode b_Exp_figure 18 = .ok (.aload_n 0, 1) := by decide +kernel
theorem d_Exp_figure_19 : decode b_Exp_figure 19 = .ok (.getfield 9, 3) := by decide +kernel
theorem d_Exp_figure_22 : decode b_Exp_figure 22 = .ok (.invokevirtual 200, 3) := by decide +kernel
theorem d_Exp_figure_25 : decode b_Exp_figure 25 = .ok (.putfield 123, 3) := by decide +kernel
theorem d_Exp_figure_28 : decode b_Exp_figure 28 = .ok (.aload_n 0, 1) := by decide +kernel
theorem d_Exp_figure_29 : decode b_Exp_figure 29 = .ok (.getfield 19, 3) := by decide +kernel
theorem d_Exp_figure_32 : decode b_Exp_figure 32 = .ok (.iconst 1, 1) := by decide +kernel
theorem d_Exp_figure_33 : decode b_Exp_figure 33 = .ok (.aload_n 1, 1) := by decide +kernel
theorem d_Exp_figure_34 : decode b_Exp_figure 34 = .ok (.getfield 123, 3) := by decide +kernel
theorem d_Exp_figure_37 : decode b_Exp_figure 37 = .ok (.iconst 0, 1) := by decide +kernel
theorem d_Exp_figure_38 : decode b_Exp_figure 38 = .ok (.iconst 0, 1) := by decide +kernel
theorem d_Exp_figure_39 : decode b_Exp_figure 39 = .ok (.invokevirtual 106, 3) := by decide +kernel
theorem d_Exp_figure_42 : decode b_Exp_figure 42 = .ok (.pop, 1) := by decide +kernel
theorem d_Exp_figure_43 : decode b_Exp_figure 43 = .ok (.aload_n 0, 1) := by decide +kernel
theorem d_Exp_figure_44 : decode b_Exp_figure 44 = .ok (.getfield 9, 3) := by decide +kernel
theorem d_Exp_figure_47 : decode b_Exp_figure 47 = .ok (.invokevirtual 27, 3) := by decide +kernel
theorem d_Exp_figure_50 : decode b_Exp_figure 50 = .ok (.bipush 17, 2) := by decide +kernel
theorem d_Exp_figure_52 : decode b_Exp_figure 52 = .ok (.if_icmp .ne 13, 3) := by decide +kernel
theorem d_Exp_figure_55 : decode b_Exp_figure 55 = .ok (.aload_n 0, 1) := by decide +kernel
theorem d_Exp_figure_56 : decode b_Exp_figure 56 = .ok (.getfield 9, 3) := by decide +kernel
theorem d_Exp_figure_59 : decode b_Exp_figure 59 = .ok (.invokevirtual 203, 3) := by decide +kernel
theorem d_Exp_figure_62 : decode b_Exp_figure 62 = .ok (.goto 10, 3) := by decide +kernel
theorem d_Exp_figure_65 : decode b_Exp_figure 65 = .ok (.aload_n 0, 1) := by decide +kernel
theorem d_Exp_figure_66 : decode b_Exp_figure 66 = .ok (.getfield 9, 3) := by decide +kernel
theorem d_Exp_figure_69 : decode b_Exp_figure 69 = .ok (.invokevirtual 206, 3) := by decide +kernel
theorem d_Exp_figure_72 : decode b_Exp_figure 72 = .ok (.aload_n 1, 1) := by decide +kernel
theorem d_Exp_figure_73 : decode b_Exp_figure 73 = .ok (.areturn, 1) := by decide +kernel
theorem q_Exp_figure : px_y y_Exp_figure 0 := by unfold px_y; decide +kernel
set_option maxHeartbeats 4000000 in
set_option maxRecDepth 100000 in
theorem c_ex_figure (l : Launch) (D : va_G) (cs : Nat → ClassId) (he : Nat) (re : Nat → Nat) (eo : Nat → Option Nat) (ef : Nat → Int32) (ea : Nat → Nat → Int32) (eg : Nat → Nat → Option Nat) (rt : Nat → Nat) (ot : Nat → Option Nat) (ta : Nat → Nat → Int32) (tg : Nat → Nat → Option Nat) (tf : Nat → Int32) (rp : Nat → Nat) (of : Option Nat) (cn : Nat) (fp : Nat → Int32) (cd : Nat → Int32) (rn : Nat → Nat) (no : Nat → Option Nat) (na : Nat → Nat → Int32) (ng : Nat → Nat → Option Nat) (own : Bool) (lq : Nat) (lc : Nat) (fq : Nat) (fc : Nat) (P : va_W) (nf : Nat → Int32) (lf : Nat → Int32) (lg : Nat → Option Nat) (ff : Nat → Int32) (fg : Nat → Option Nat) (lv : Nat) (hinv0 : CurOk (tf 10) (tf 13) (tf 14) (tf 15) (tf 17) (ta 0)) (hinv1 : NmOk P own (lf 1) (ff 1) lc fc lg fg) (g0 : cn % 4 = 0) (g1 : cn ≤ 100000) (g2 : lv ≤ 61) (hpk : Pok cn (fp 3) cd) : MgR l y_Exp_figure b_Exp_figure 2 (.object "HomeSystem$Operand") D cs (4 * lv + 5) (120 * lv + 200) (((2060 - (tf 13).toInt + 200 * (lv : Int)).toNat)) (((9 * (2060 - (tf 13).toInt + 200 * (lv : Int))).toNat)) [.ref he] [wd_Exp cs he re eo ef ea eg, wd_Tok cs (re 0) rt ot tf ta tg, wd_Prg cs (re 2) rp (fun k => if k = 2 then of else none) fp (fun _ _ => 0) (fun _ _ => none), [((rp 1), .inl (cs 0, cn, .inl cd))], wd_Nam cs (re 1) rn no nf na ng, wd_Lst cs (rn 0) (fun _ => 0) (fun k => if k = 0 then (some lq) else none) lf (fun _ _ => 0) (fun _ _ => none), lA cs own lq lc lg, wd_Lst cs (rn 1) (fun _ => 0) (fun k => if k = 0 then (some fq) else none) ff (fun _ _ => 0) (fun _ _ => none), [(fq, .inl (cs 12, fc, .inr (.inr (.inr (.inr fg)))))], P] (fun _ => True) (fun v ps => ∃ (tf' : Nat → Int32) (fp' : Nat → Int32) (cd' : Nat → Int32) (hx' : Nat) (ox' : Option Nat) (fx' : Nat → Int32), (ps.1 = [wd_Exp cs he re eo ef ea eg, wd_Tok cs (re 0) rt ot tf' ta tg, wd_Prg cs (re 2) rp (fun k => if k = 2 then of else none) fp' (fun _ _ => 0) (fun _ _ => none), [((rp 1), .inl (cs 0, cn, .inl cd'))], wd_Nam cs (re 1) rn no nf na ng, wd_Lst cs (rn 0) (fun _ => 0) (fun k => if k = 0 then (some lq) else none) lf (fun _ _ => 0) (fun _ _ => none), lA cs own lq lc lg, wd_Lst cs (rn 1) (fun _ => 0) (fun k => if k = 0 then (some fq) else none) ff (fun _ _ => 0) (fun _ _ => none), [(fq, .inl (cs 12, fc, .inr (.inr (.inr (.inr fg)))))], P, wd_Opd cs hx' (fun _ => 0) (fun k => if k = 4 then ox' else none) fx' (fun _ _ => 0) (fun _ _ => none)]) ∧ (v = some hx') ∧ (CurOk (tf' 10) (tf' 13) (tf' 14) (tf' 15) (tf' 17) (ta 0)) ∧ ((tf' 10).toInt = (tf 10).toInt) ∧ ((tf 15).toInt ≤ (tf' 15).toInt) ∧ ((tf 13).toInt ≤ (tf' 13).toInt) ∧ ((tf' 13).toInt ≤ (tf 13).toInt + 3000 - 3000 * (tf 15).toInt) ∧ ((tf' 14).toInt ≤ (tf 14).toInt + 4294967296 * (tf' 15).toInt) ∧ ((tf 14).toInt ≤ (tf' 14).toInt + 4294967296 * (tf' 15).toInt) ∧ ((tf 13).toInt + 1 ≤ (tf' 13).toInt + (tf' 15).toInt) ∧ (Prel cn (fp 3) cd (fp' 3) cd') ∧ ((fp' 3).toInt ≤ (fp 3).toInt + 100 * ((tf' 13).toInt - (tf 13).toInt) + 100000 * (tf' 15).toInt) ∧ (0 ≤ (fx' 0).toInt) ∧ (0 ≤ (fx' 3).toInt) ∧ (1 ≤ (fx' 5).toInt) ∧ ((fx' 5).toInt ≤ (tf' 13).toInt + 8 * (lv : Int) + 1) ∧ (Sy P ox') ∧ (R_ex_figure (RL_ex_parse lv) (RL_ex_operand lv) ta cn tf fp cd tf' fp' cd' ox' fx') ∧ ((ps.2.1 : Int) ≤ (tf' 13).toInt - (tf 13).toInt + 3 * (lv : Int) + 1) ∧ ((ps.2.1 : Int) ≤ (tf' 13).toInt - (tf 13).toInt + 200 * (tf' 15).toInt) ∧ ((ps.2.1 : Int) ≤ 5001 - 5000 * (tf 15).toInt) ∧ (ps.2.2 ≤ 9 * ps.2.1)) := by
  refine pg_enter (by decide) (Nat.le_of_ble_eq_true rfl) ?_
  intro p e s m below meth c A ls hAe S hr hlk hnm hA hT hX hw hl
  have hl : lv_has ls 2 [(0, .ref he)] := hl
  have cst0 : (0 : Int32).toInt = 0 := rfl
  have cst1 : (1 : Int32).toInt = 1 := rfl
  have cst17 : (17 : Int32).toInt = 17 := rfl
  obtain ⟨⟨o1, o2⟩, ⟨o3, o4⟩, ⟨o5, o6⟩, o7, o8, hlast⟩ := hinv0; replace o8 := cur8 o5 o6 o8
  obtain ⟨hown, ⟨n1, n2, n3⟩, hEl, ⟨n4, n5, n6⟩, hEf⟩ := hinv1
  have la_tf := Int32.le_toInt (tf 14)
  have ua_tf := Int32.toInt_lt (tf 14)
  have hrel := Prel.rf hpk
  have pz0 := hrel.nm
  refine px_new S k_Opd hT hw hA m4_211 m4_212 m1_31 (fs := [.int 0, .int 0, .int 0, .int 0, .null, .int 0, .int 0, .int 0, .int 0]) (by decide +kernel) (show 0 + 1 ≤ ((2060 - (tf 13).toInt + 200 * (lv : Int)).toNat) from by first | exact oz_7f8c2972df o4 o2 | omega) (show 0 + 9 ≤ ((9 * (2060 - (tf 13).toInt + 200 * (lv : Int))).toNat) from by first | exact oz_1ad9261a62 o4 o2 | omega) d_Exp_figure_0 (fun q1 H hw => ?_)
  have hw : pw D A s.heap H _ [wd_Exp cs he re eo ef ea eg, wd_Tok cs (re 0) rt ot tf ta tg, wd_Prg cs (re 2) rp (fun k => if k = 2 then of else none) fp (fun _ _ => 0) (fun _ _ => none), [((rp 1), .inl (cs 0, cn, .inl cd))], wd_Nam cs (re 1) rn no nf na ng, wd_Lst cs (rn 0) (fun _ => 0) (fun k => if k = 0 then (some lq) else none) lf (fun _ _ => 0) (fun _ _ => none), lA cs own lq lc lg, wd_Lst cs (rn 1) (fun _ => 0) (fun k => if k = 0 then (some fq) else none) ff (fun _ _ => 0) (fun _ _ => none), [(fq, .inl (cs 12, fc, .inr (.inr (.inr (.inr fg)))))], P, [(q1, .inr (8, [.int 0, .int 0, .int 0, .int 0, .null, .int 0, .int 0, .int 0, .int 0]))]] := hw
  refine lv_dup S.x S.b d_Exp_figure_3 rfl ?_
  refine lv_aload_n S.x S.b d_Exp_figure_4 rfl (lv_at hl 0 rfl) ?_
  refine px_get S k_Exp hT hw 0 0 0 (v := .ref (re 0)) rfl rfl rfl (by decide) m2_131 d_Exp_figure_5 ?_
  refine px_get S k_Tok hT hw 1 0 13 (v := .int (tf 13)) rfl rfl rfl (by decide) m1_117 d_Exp_figure_8 ?_
  refine lv_iconst (v := 0) S.x S.b d_Exp_figure_11 (by decide) ?_
  refine lv_iconst (v := 0) S.x S.b d_Exp_figure_12 (by decide) ?_
  refine px_callv (pr := [wd_Exp cs he re eo ef ea eg, wd_Tok cs (re 0) rt ot tf ta tg, wd_Prg cs (re 2) rp (fun k => if k = 2 then of else none) fp (fun _ _ => 0) (fun _ _ => none), [((rp 1), .inl (cs 0, cn, .inl cd))], wd_Nam cs (re 1) rn no nf na ng, wd_Lst cs (rn 0) (fun _ => 0) (fun k => if k = 0 then (some lq) else none) lf (fun _ _ => 0) (fun _ _ => none), lA cs own lq lc lg, wd_Lst cs (rn 1) (fun _ => 0) (fun k => if k = 0 then (some fq) else none) ff (fun _ _ => 0) (fun _ _ => none), [(fq, .inl (cs 12, fc, .inr (.inr (.inr (.inr fg)))))], P]) (px_runI (As := [.int (tf 13), .int 0, .int 0]) (rest := [.ref q1]) S (c_Opd_init l D cs q1 (tf 13) 0 0 _) hT (pr := [wd_Exp cs he re eo ef ea eg, wd_Tok cs (re 0) rt ot tf ta tg, wd_Prg cs (re 2) rp (fun k => if k = 2 then of else none) fp (fun _ _ => 0) (fun _ _ => none), [((rp 1), .inl (cs 0, cn, .inl cd))], wd_Nam cs (re 1) rn no nf na ng, wd_Lst cs (rn 0) (fun _ => 0) (fun k => if k = 0 then (some lq) else none) lf (fun _ _ => 0) (fun _ _ => none), lA cs own lq lc lg, wd_Lst cs (rn 1) (fun _ => 0) (fun k => if k = 0 then (some fq) else none) ff (fun _ _ => 0) (fun _ _ => none), [(fq, .inl (cs 12, fc, .inr (.inr (.inr (.inr fg)))))], P]) (pcs := [[(q1, .inr (8, [.int 0, .int 0, .int 0, .int 0, .null, .int 0, .int 0, .int 0, .int 0]))]]) hw px_X.tt m4_215 m4_213 m4_214 m1_31 rfl q_Opd_init ⟨show 1 + 1 ≤ (4 * lv + 5) from (by first | exact oz_42f2cace8e | omega), show 8 + (4 + 11) + 12 ≤ (120 * lv + 200) from (by first | exact oz_6eeaff9437 | omega)⟩ hl.1 rfl (Nat.le_of_ble_eq_true rfl) d_Exp_figure_13 ⟨show (0 + 1) + 0 ≤ ((2060 - (tf 13).toInt + 200 * (lv : Int)).toNat) from (by first | exact oz_9057dd1d0e o4 o2 | omega), show (0 + 9) + 0 ≤ ((9 * (2060 - (tf 13).toInt + 200 * (lv : Int))).toNat) from (by first | exact oz_3f07a146c3 o4 o2 | omega)⟩) hw hA (fun p2 H locs hp2 hw => ?_)
  subst hp2
  have hw : pw D A s.heap H locs [wd_Exp cs he re eo ef ea eg, wd_Tok cs (re 0) rt ot tf ta tg, wd_Prg cs (re 2) rp (fun k => if k = 2 then of else none) fp (fun _ _ => 0) (fun _ _ => none), [((rp 1), .inl (cs 0, cn, .inl cd))], wd_Nam cs (re 1) rn no nf na ng, wd_Lst cs (rn 0) (fun _ => 0) (fun k => if k = 0 then (some lq) else none) lf (fun _ _ => 0) (fun _ _ => none), lA cs own lq lc lg, wd_Lst cs (rn 1) (fun _ => 0) (fun k => if k = 0 then (some fq) else none) ff (fun _ _ => 0) (fun _ _ => none), [(fq, .inl (cs 12, fc, .inr (.inr (.inr (.inr fg)))))], P, wd_Opd cs q1 (fun _ => 0) (fun k => if k = 4 then none else none) (upd (upd (upd (upd (upd (upd (upd (upd (fun _ => 0) 0 (tf 13)) 1 0) 2 0) 3 0) 5 1) 6 1) 7 0) 8 0) (fun _ _ => 0) (fun _ _ => none)] := hw
  refine lv_astore_n (lv' := [(1, .ref q1), (0, .ref he)]) S.x S.b d_Exp_figure_16 rfl hl (by decide) rfl (fun ls hl => ?_)
  refine lv_aload_n S.x S.b d_Exp_figure_17 rfl (lv_at hl 0 rfl) ?_
  refine lv_aload_n S.x S.b d_Exp_figure_18 rfl (lv_at hl 1 rfl) ?_
  refine px_get S k_Exp hT hw 0 0 0 (v := .ref (re 0)) rfl rfl rfl (by decide) m2_131 d_Exp_figure_19 ?_
  have hw : pw D A s.heap _ _ [wd_Exp cs he re eo ef ea eg, wd_Prg cs (re 2) rp (fun k => if k = 2 then of else none) fp (fun _ _ => 0) (fun _ _ => none), [((rp 1), .inl (cs 0, cn, .inl cd))], wd_Nam cs (re 1) rn no nf na ng, wd_Lst cs (rn 0) (fun _ => 0) (fun k => if k = 0 then (some lq) else none) lf (fun _ _ => 0) (fun _ _ => none), lA cs own lq lc lg, wd_Lst cs (rn 1) (fun _ => 0) (fun k => if k = 0 then (some fq) else none) ff (fun _ _ => 0) (fun _ _ => none), [(fq, .inl (cs 12, fc, .inr (.inr (.inr (.inr fg)))))], P, wd_Opd cs q1 (fun _ => 0) (fun k => if k = 4 then none else none) (upd (upd (upd (upd (upd (upd (upd (upd (fun _ => 0) 0 (tf 13)) 1 0) 2 0) 3 0) 5 1) 6 1) 7 0) 8 0) (fun _ _ => 0) (fun _ _ => none), wd_Tok cs (re 0) rt ot tf ta tg] := hw.sub [0, 2, 3, 4, 5, 6, 7, 8, 9, 10, 1] rfl rfl
  refine px_calli (pr := [wd_Exp cs he re eo ef ea eg, wd_Prg cs (re 2) rp (fun k => if k = 2 then of else none) fp (fun _ _ => 0) (fun _ _ => none), [((rp 1), .inl (cs 0, cn, .inl cd))], wd_Nam cs (re 1) rn no nf na ng, wd_Lst cs (rn 0) (fun _ => 0) (fun k => if k = 0 then (some lq) else none) lf (fun _ _ => 0) (fun _ _ => none), lA cs own lq lc lg, wd_Lst cs (rn 1) (fun _ => 0) (fun k => if k = 0 then (some fq) else none) ff (fun _ _ => 0) (fun _ _ => none), [(fq, .inl (cs 12, fc, .inr (.inr (.inr (.inr fg)))))], P, wd_Opd cs q1 (fun _ => 0) (fun k => if k = 4 then none else none) (upd (upd (upd (upd (upd (upd (upd (upd (fun _ => 0) 0 (tf 13)) 1 0) 2 0) 3 0) 5 1) 6 1) 7 0) 8 0) (fun _ _ => 0) (fun _ _ => none)]) (px_runV (As := []) (rest := [.ref q1]) S (c_tk_meaning l D cs (re 0) rt ot ta tg tf   (show CurOk (tf 10) (tf 13) (tf 14) (tf 15) (tf 17) (ta 0) from ⟨⟨by first | exact o1 | omega, by first | exact o2 | omega⟩, ⟨by first | exact o3 | omega, by first | exact o4 | omega⟩, ⟨by first | exact o5 | omega, by first | exact o6 | omega⟩, by first | exact o7 | omega, by first | exact fun q9 => ⟨oz_4cdb73375f o8.1 q9, oz_329f0ac40c o8.2 q9⟩ | omega, last_eq hlast (rfl)⟩) _) hT (pr := [wd_Exp cs he re eo ef ea eg, wd_Prg cs (re 2) rp (fun k => if k = 2 then of else none) fp (fun _ _ => 0) (fun _ _ => none), [((rp 1), .inl (cs 0, cn, .inl cd))], wd_Nam cs (re 1) rn no nf na ng, wd_Lst cs (rn 0) (fun _ => 0) (fun k => if k = 0 then (some lq) else none) lf (fun _ _ => 0) (fun _ _ => none), lA cs own lq lc lg, wd_Lst cs (rn 1) (fun _ => 0) (fun k => if k = 0 then (some fq) else none) ff (fun _ _ => 0) (fun _ _ => none), [(fq, .inl (cs 12, fc, .inr (.inr (.inr (.inr fg)))))], P, wd_Opd cs q1 (fun _ => 0) (fun k => if k = 4 then none else none) (upd (upd (upd (upd (upd (upd (upd (upd (fun _ => 0) 0 (tf 13)) 1 0) 2 0) 3 0) 5 1) 6 1) 7 0) 8 0) (fun _ _ => 0) (fun _ _ => none)]) (pcs := [wd_Tok cs (re 0) rt ot tf ta tg]) hw px_X.tt (px_recv hT hw 10 0 rfl rfl rfl) m4_135 m4_210 m4_133 m4_134 m1_2 q_Tok_meaning ⟨show 0 + 1 ≤ (4 * lv + 5) from (by first | exact oz_5f82100d56 | omega), show 8 + (1 + 11) + 0 ≤ (120 * lv + 200) from (by first | exact oz_72bd2627d7 | omega)⟩ hl.1 rfl (Nat.le_of_ble_eq_true rfl) d_Exp_figure_22 ⟨show (0 + 1) + 0 ≤ ((2060 - (tf 13).toInt + 200 * (lv : Int)).toNat) from (by first | exact oz_9057dd1d0e o4 o2 | omega), show (0 + 9) + 0 ≤ ((9 * (2060 - (tf 13).toInt + 200 * (lv : Int))).toNat) from (by first | exact oz_3f07a146c3 o4 o2 | omega)⟩) hw hA (fun v5 p4 H locs hp4 hw => ?_)
  obtain ⟨rfl, e6⟩ := hp4
  have e6 : R_tk_meaning ta tf v5 := e6
  have hw : pw D A s.heap H locs [wd_Exp cs he re eo ef ea eg, wd_Prg cs (re 2) rp (fun k => if k = 2 then of else none) fp (fun _ _ => 0) (fun _ _ => none), [((rp 1), .inl (cs 0, cn, .inl cd))], wd_Nam cs (re 1) rn no nf na ng, wd_Lst cs (rn 0) (fun _ => 0) (fun k => if k = 0 then (some lq) else none) lf (fun _ _ => 0) (fun _ _ => none), lA cs own lq lc lg, wd_Lst cs (rn 1) (fun _ => 0) (fun k => if k = 0 then (some fq) else none) ff (fun _ _ => 0) (fun _ _ => none), [(fq, .inl (cs 12, fc, .inr (.inr (.inr (.inr fg)))))], P, wd_Opd cs q1 (fun _ => 0) (fun k => if k = 4 then none else none) (upd (upd (upd (upd (upd (upd (upd (upd (fun _ => 0) 0 (tf 13)) 1 0) 2 0) 3 0) 5 1) 6 1) 7 0) 8 0) (fun _ _ => 0) (fun _ _ => none), wd_Tok cs (re 0) rt ot tf ta tg] := hw
  have lv5 := Int32.le_toInt v5
  have uv5 := Int32.toInt_lt v5
  refine px_put S k_Opd hT hw 9 0 8 rfl rfl (by decide) m4_235 rfl rfl rfl (Nat.le_of_ble_eq_true rfl) d_Exp_figure_25 (w' := wd_Opd cs q1 (fun _ => 0) (fun k => if k = 4 then none else none) (upd (upd (upd (upd (upd (upd (upd (upd (fun _ => 0) 0 (tf 13)) 1 0) 2 0) 3 0) 5 1) 6 1) 7 0) 8 v5) (fun _ _ => 0) (fun _ _ => none)) (ps' := [wd_Exp cs he re eo ef ea eg, wd_Prg cs (re 2) rp (fun k => if k = 2 then of else none) fp (fun _ _ => 0) (fun _ _ => none), [((rp 1), .inl (cs 0, cn, .inl cd))], wd_Nam cs (re 1) rn no nf na ng, wd_Lst cs (rn 0) (fun _ => 0) (fun k => if k = 0 then (some lq) else none) lf (fun _ _ => 0) (fun _ _ => none), lA cs own lq lc lg, wd_Lst cs (rn 1) (fun _ => 0) (fun k => if k = 0 then (some fq) else none) ff (fun _ _ => 0) (fun _ _ => none), [(fq, .inl (cs 12, fc, .inr (.inr (.inr (.inr fg)))))], P, wd_Opd cs q1 (fun _ => 0) (fun k => if k = 4 then none else none) (upd (upd (upd (upd (upd (upd (upd (upd (fun _ => 0) 0 (tf 13)) 1 0) 2 0) 3 0) 5 1) 6 1) 7 0) 8 v5) (fun _ _ => 0) (fun _ _ => none), wd_Tok cs (re 0) rt ot tf ta tg]) rfl rfl (fun H locs hw => ?_)
  refine lv_aload_n S.x S.b d_Exp_figure_28 rfl (lv_at hl 1 rfl) ?_
  refine px_get S k_Exp hT hw 0 0 2 (v := .ref (re 2)) rfl rfl rfl (by decide) m2_133 d_Exp_figure_29 ?_
  refine lv_iconst (v := 1) S.x S.b d_Exp_figure_32 (by decide) ?_
  refine lv_aload_n S.x S.b d_Exp_figure_33 rfl (lv_at hl 0 rfl) ?_
  refine px_get S k_Opd hT hw 9 0 8 (v := .int v5) rfl rfl rfl (by decide) m4_235 d_Exp_figure_34 ?_
  refine lv_iconst (v := 0) S.x S.b d_Exp_figure_37 (by decide) ?_
  refine lv_iconst (v := 0) S.x S.b d_Exp_figure_38 (by decide) ?_
  have hw : pw D A s.heap _ _ [wd_Exp cs he re eo ef ea eg, wd_Nam cs (re 1) rn no nf na ng, wd_Lst cs (rn 0) (fun _ => 0) (fun k => if k = 0 then (some lq) else none) lf (fun _ _ => 0) (fun _ _ => none), lA cs own lq lc lg, wd_Lst cs (rn 1) (fun _ => 0) (fun k => if k = 0 then (some fq) else none) ff (fun _ _ => 0) (fun _ _ => none), [(fq, .inl (cs 12, fc, .inr (.inr (.inr (.inr fg)))))], P, wd_Opd cs q1 (fun _ => 0) (fun k => if k = 4 then none else none) (upd (upd (upd (upd (upd (upd (upd (upd (fun _ => 0) 0 (tf 13)) 1 0) 2 0) 3 0) 5 1) 6 1) 7 0) 8 v5) (fun _ _ => 0) (fun _ _ => none), wd_Tok cs (re 0) rt ot tf ta tg, wd_Prg cs (re 2) rp (fun k => if k = 2 then of else none) fp (fun _ _ => 0) (fun _ _ => none), [((rp 1), .inl (cs 0, cn, .inl cd))]] := hw.sub [0, 3, 4, 5, 6, 7, 8, 9, 10, 1, 2] rfl rfl
  refine px_calli (pr := [wd_Exp cs he re eo ef ea eg, wd_Nam cs (re 1) rn no nf na ng, wd_Lst cs (rn 0) (fun _ => 0) (fun k => if k = 0 then (some lq) else none) lf (fun _ _ => 0) (fun _ _ => none), lA cs own lq lc lg, wd_Lst cs (rn 1) (fun _ => 0) (fun k => if k = 0 then (some fq) else none) ff (fun _ _ => 0) (fun _ _ => none), [(fq, .inl (cs 12, fc, .inr (.inr (.inr (.inr fg)))))], P, wd_Opd cs q1 (fun _ => 0) (fun k => if k = 4 then none else none) (upd (upd (upd (upd (upd (upd (upd (upd (fun _ => 0) 0 (tf 13)) 1 0) 2 0) 3 0) 5 1) 6 1) 7 0) 8 v5) (fun _ _ => 0) (fun _ _ => none), wd_Tok cs (re 0) rt ot tf ta tg]) (px_runV (As := [.int 1, .int v5, .int 0, .int 0]) (rest := []) S (c_pe_emit l D cs (re 2) rp of cn fp cd 1 v5 0 0  (show cn % 4 = 0 from by first | exact g0 | omega) (show cn ≤ 100000 from by first | exact g1 | omega) hrel.1 (jop_low (by decide)) _) hT (pr := [wd_Exp cs he re eo ef ea eg, wd_Nam cs (re 1) rn no nf na ng, wd_Lst cs (rn 0) (fun _ => 0) (fun k => if k = 0 then (some lq) else none) lf (fun _ _ => 0) (fun _ _ => none), lA cs own lq lc lg, wd_Lst cs (rn 1) (fun _ => 0) (fun k => if k = 0 then (some fq) else none) ff (fun _ _ => 0) (fun _ _ => none), [(fq, .inl (cs 12, fc, .inr (.inr (.inr (.inr fg)))))], P, wd_Opd cs q1 (fun _ => 0) (fun k => if k = 4 then none else none) (upd (upd (upd (upd (upd (upd (upd (upd (fun _ => 0) 0 (tf 13)) 1 0) 2 0) 3 0) 5 1) 6 1) 7 0) 8 v5) (fun _ _ => 0) (fun _ _ => none), wd_Tok cs (re 0) rt ot tf ta tg]) (pcs := [wd_Prg cs (re 2) rp (fun k => if k = 2 then of else none) fp (fun _ _ => 0) (fun _ _ => none), [((rp 1), .inl (cs 0, cn, .inl cd))]]) hw px_X.tt (px_recv hT hw 9 0 rfl rfl rfl) m4_181 m4_178 m4_179 m4_180 m1_16 q_Prg_emit ⟨show 0 + 1 ≤ (4 * lv + 5) from (by first | exact oz_5f82100d56 | omega), show 8 + (6 + 11) + 0 ≤ (120 * lv + 200) from (by first | exact oz_9907b82605 | omega)⟩ hl.1 rfl (Nat.le_of_ble_eq_true rfl) d_Exp_figure_39 ⟨show (0 + 1) + 0 ≤ ((2060 - (tf 13).toInt + 200 * (lv : Int)).toNat) from (by first | exact oz_9057dd1d0e o4 o2 | omega), show (0 + 9) + 0 ≤ ((9 * (2060 - (tf 13).toInt + 200 * (lv : Int))).toNat) from (by first | exact oz_3f07a146c3 o4 o2 | omega)⟩) hw hA (fun v12 p11 H locs hp11 hw => ?_)
  obtain ⟨fp9, cd10, rfl, hv_v12, hem, hwx, hsz, k0fp9, k4fp9, k5fp9, hR_fp9⟩ := hp11
  have tv_v12 : v12.toInt = (fp 3).toInt := by rw [hv_v12]
  have pm13 := hem.2.1
  have hrel := hrel.tr hem
  have pz14 := hrel.nm
  have hsl_fp9 : (fp9 3).toInt ≤ (fp 3).toInt + 4 ∧ (fp 3).toInt ≤ (fp9 3).toInt := by omega
  clear hsz hwx
  have hw : pw D A s.heap H locs [wd_Exp cs he re eo ef ea eg, wd_Nam cs (re 1) rn no nf na ng, wd_Lst cs (rn 0) (fun _ => 0) (fun k => if k = 0 then (some lq) else none) lf (fun _ _ => 0) (fun _ _ => none), lA cs own lq lc lg, wd_Lst cs (rn 1) (fun _ => 0) (fun k => if k = 0 then (some fq) else none) ff (fun _ _ => 0) (fun _ _ => none), [(fq, .inl (cs 12, fc, .inr (.inr (.inr (.inr fg)))))], P, wd_Opd cs q1 (fun _ => 0) (fun k => if k = 4 then none else none) (upd (upd (upd (upd (upd (upd (upd (upd (fun _ => 0) 0 (tf 13)) 1 0) 2 0) 3 0) 5 1) 6 1) 7 0) 8 v5) (fun _ _ => 0) (fun _ _ => none), wd_Tok cs (re 0) rt ot tf ta tg, wd_Prg cs (re 2) rp (fun k => if k = 2 then of else none) fp9 (fun _ _ => 0) (fun _ _ => none), [((rp 1), .inl (cs 0, cn, .inl cd10))]] := hw
  have lv12 := Int32.le_toInt v12
  have uv12 := Int32.toInt_lt v12
  refine lv_pop S.x S.b d_Exp_figure_42 rfl ?_
  refine lv_aload_n S.x S.b d_Exp_figure_43 rfl (lv_at hl 1 rfl) ?_
  refine px_get S k_Exp hT hw 0 0 0 (v := .ref (re 0)) rfl rfl rfl (by decide) m2_131 d_Exp_figure_44 ?_
  have hw : pw D A s.heap _ _ [wd_Exp cs he re eo ef ea eg, wd_Nam cs (re 1) rn no nf na ng, wd_Lst cs (rn 0) (fun _ => 0) (fun k => if k = 0 then (some lq) else none) lf (fun _ _ => 0) (fun _ _ => none), lA cs own lq lc lg, wd_Lst cs (rn 1) (fun _ => 0) (fun k => if k = 0 then (some fq) else none) ff (fun _ _ => 0) (fun _ _ => none), [(fq, .inl (cs 12, fc, .inr (.inr (.inr (.inr fg)))))], P, wd_Opd cs q1 (fun _ => 0) (fun k => if k = 4 then none else none) (upd (upd (upd (upd (upd (upd (upd (upd (fun _ => 0) 0 (tf 13)) 1 0) 2 0) 3 0) 5 1) 6 1) 7 0) 8 v5) (fun _ _ => 0) (fun _ _ => none), wd_Prg cs (re 2) rp (fun k => if k = 2 then of else none) fp9 (fun _ _ => 0) (fun _ _ => none), [((rp 1), .inl (cs 0, cn, .inl cd10))], wd_Tok cs (re 0) rt ot tf ta tg] := hw.sub [0, 1, 2, 3, 4, 5, 6, 7, 9, 10, 8] rfl rfl
  refine px_calli (pr := [wd_Exp cs he re eo ef ea eg, wd_Nam cs (re 1) rn no nf na ng, wd_Lst cs (rn 0) (fun _ => 0) (fun k => if k = 0 then (some lq) else none) lf (fun _ _ => 0) (fun _ _ => none), lA cs own lq lc lg, wd_Lst cs (rn 1) (fun _ => 0) (fun k => if k = 0 then (some fq) else none) ff (fun _ _ => 0) (fun _ _ => none), [(fq, .inl (cs 12, fc, .inr (.inr (.inr (.inr fg)))))], P, wd_Opd cs q1 (fun _ => 0) (fun k => if k = 4 then none else none) (upd (upd (upd (upd (upd (upd (upd (upd (fun _ => 0) 0 (tf 13)) 1 0) 2 0) 3 0) 5 1) 6 1) 7 0) 8 v5) (fun _ _ => 0) (fun _ _ => none), wd_Prg cs (re 2) rp (fun k => if k = 2 then of else none) fp9 (fun _ _ => 0) (fun _ _ => none), [((rp 1), .inl (cs 0, cn, .inl cd10))]]) (px_runV (As := []) (rest := []) S (c_tk_kind l D cs (re 0) rt ot ta tg tf   (show CurOk (tf 10) (tf 13) (tf 14) (tf 15) (tf 17) (ta 0) from ⟨⟨by first | exact o1 | omega, by first | exact o2 | omega⟩, ⟨by first | exact o3 | omega, by first | exact o4 | omega⟩, ⟨by first | exact o5 | omega, by first | exact o6 | omega⟩, by first | exact o7 | omega, by first | exact fun q9 => ⟨oz_4cdb73375f o8.1 q9, oz_329f0ac40c o8.2 q9⟩ | omega, last_eq hlast (rfl)⟩) _) hT (pr := [wd_Exp cs he re eo ef ea eg, wd_Nam cs (re 1) rn no nf na ng, wd_Lst cs (rn 0) (fun _ => 0) (fun k => if k = 0 then (some lq) else none) lf (fun _ _ => 0) (fun _ _ => none), lA cs own lq lc lg, wd_Lst cs (rn 1) (fun _ => 0) (fun k => if k = 0 then (some fq) else none) ff (fun _ _ => 0) (fun _ _ => none), [(fq, .inl (cs 12, fc, .inr (.inr (.inr (.inr fg)))))], P, wd_Opd cs q1 (fun _ => 0) (fun k => if k = 4 then none else none) (upd (upd (upd (upd (upd (upd (upd (upd (fun _ => 0) 0 (tf 13)) 1 0) 2 0) 3 0) 5 1) 6 1) 7 0) 8 v5) (fun _ _ => 0) (fun _ _ => none), wd_Prg cs (re 2) rp (fun k => if k = 2 then of else none) fp9 (fun _ _ => 0) (fun _ _ => none), [((rp 1), .inl (cs 0, cn, .inl cd10))]]) (pcs := [wd_Tok cs (re 0) rt ot tf ta tg]) hw px_X.tt (px_recv hT hw 10 0 rfl rfl rfl) m4_108 m4_153 m4_106 m4_107 m1_2 q_Tok_kind ⟨show 0 + 1 ≤ (4 * lv + 5) from (by first | exact oz_5f82100d56 | omega), show 8 + (1 + 11) + 0 ≤ (120 * lv + 200) from (by first | exact oz_72bd2627d7 | omega)⟩ hl.1 rfl (Nat.le_of_ble_eq_true rfl) d_Exp_figure_47 ⟨show (0 + 1) + 0 ≤ ((2060 - (tf 13).toInt + 200 * (lv : Int)).toNat) from (by first | exact oz_9057dd1d0e o4 o2 | omega), show (0 + 9) + 0 ≤ ((9 * (2060 - (tf 13).toInt + 200 * (lv : Int))).toNat) from (by first | exact oz_3f07a146c3 o4 o2 | omega)⟩) hw hA (fun v16 p15 H locs hp15 hw => ?_)
  obtain ⟨rfl, e17, e18, e19⟩ := hp15
  replace e17 : v16.toInt ≤ 19 + (4294967296 - 4294967296 * (tf 15).toInt) ∧ 19 ≤ v16.toInt + (4294967296 - 4294967296 * (tf 15).toInt) := by have := Int32.le_toInt (tf 15); have := Int32.toInt_lt (tf 15); have := Int32.le_toInt v16; have := Int32.toInt_lt v16; omega
  replace e18 : Kd v16 (tf 13).toInt (tf 10).toInt := e18
  have e19 : R_tk_kind ta tf v16 := e19
  have hw : pw D A s.heap H locs [wd_Exp cs he re eo ef ea eg, wd_Nam cs (re 1) rn no nf na ng, wd_Lst cs (rn 0) (fun _ => 0) (fun k => if k = 0 then (some lq) else none) lf (fun _ _ => 0) (fun _ _ => none), lA cs own lq lc lg, wd_Lst cs (rn 1) (fun _ => 0) (fun k => if k = 0 then (some fq) else none) ff (fun _ _ => 0) (fun _ _ => none), [(fq, .inl (cs 12, fc, .inr (.inr (.inr (.inr fg)))))], P, wd_Opd cs q1 (fun _ => 0) (fun k => if k = 4 then none else none) (upd (upd (upd (upd (upd (upd (upd (upd (fun _ => 0) 0 (tf 13)) 1 0) 2 0) 3 0) 5 1) 6 1) 7 0) 8 v5) (fun _ _ => 0) (fun _ _ => none), wd_Prg cs (re 2) rp (fun k => if k = 2 then of else none) fp9 (fun _ _ => 0) (fun _ _ => none), [((rp 1), .inl (cs 0, cn, .inl cd10))], wd_Tok cs (re 0) rt ot tf ta tg] := hw
  have lv16 := Int32.le_toInt v16
  have uv16 := Int32.toInt_lt v16
  refine lv_bipush (v := 17) S.x S.b d_Exp_figure_50 (by decide) ?_
  refine lv_icmp_ne (tgt := 65) S.x S.b d_Exp_figure_52 (by decide) (fun c20 => ?_) (fun c20 => ?_)
  · have nc20 : ¬ v16.toInt = (17 : Int) := mt (i_eq (x := v16) (y := 17)).mpr c20
    refine lv_aload_n S.x S.b d_Exp_figure_65 rfl (lv_at hl 1 rfl) ?_
    refine px_get S k_Exp hT hw 0 0 0 (v := .ref (re 0)) rfl rfl rfl (by decide) m2_131 d_Exp_figure_66 ?_
    refine px_callv (pr := [wd_Exp cs he re eo ef ea eg, wd_Nam cs (re 1) rn no nf na ng, wd_Lst cs (rn 0) (fun _ => 0) (fun k => if k = 0 then (some lq) else none) lf (fun _ _ => 0) (fun _ _ => none), lA cs own lq lc lg, wd_Lst cs (rn 1) (fun _ => 0) (fun k => if k = 0 then (some fq) else none) ff (fun _ _ => 0) (fun _ _ => none), [(fq, .inl (cs 12, fc, .inr (.inr (.inr (.inr fg)))))], P, wd_Opd cs q1 (fun _ => 0) (fun k => if k = 4 then none else none) (upd (upd (upd (upd (upd (upd (upd (upd (fun _ => 0) 0 (tf 13)) 1 0) 2 0) 3 0) 5 1) 6 1) 7 0) 8 v5) (fun _ _ => 0) (fun _ _ => none), wd_Prg cs (re 2) rp (fun k => if k = 2 then of else none) fp9 (fun _ _ => 0) (fun _ _ => none), [((rp 1), .inl (cs 0, cn, .inl cd10))]]) (px_runV (As := []) (rest := []) S (c_tk_fail l D cs (re 0) rt ot ta tg tf   (show CurOk (tf 10) (tf 13) (tf 14) (tf 15) (tf 17) (ta 0) from ⟨⟨by first | exact o1 | omega, by first | exact o2 | omega⟩, ⟨by first | exact o3 | omega, by first | exact o4 | omega⟩, ⟨by first | exact o5 | omega, by first | exact o6 | omega⟩, by first | exact o7 | omega, by first | exact fun q9 => ⟨oz_4cdb73375f o8.1 q9, oz_329f0ac40c o8.2 q9⟩ | omega, last_eq hlast (rfl)⟩) _) hT (pr := [wd_Exp cs he re eo ef ea eg, wd_Nam cs (re 1) rn no nf na ng, wd_Lst cs (rn 0) (fun _ => 0) (fun k => if k = 0 then (some lq) else none) lf (fun _ _ => 0) (fun _ _ => none), lA cs own lq lc lg, wd_Lst cs (rn 1) (fun _ => 0) (fun k => if k = 0 then (some fq) else none) ff (fun _ _ => 0) (fun _ _ => none), [(fq, .inl (cs 12, fc, .inr (.inr (.inr (.inr fg)))))], P, wd_Opd cs q1 (fun _ => 0) (fun k => if k = 4 then none else none) (upd (upd (upd (upd (upd (upd (upd (upd (fun _ => 0) 0 (tf 13)) 1 0) 2 0) 3 0) 5 1) 6 1) 7 0) 8 v5) (fun _ _ => 0) (fun _ _ => none), wd_Prg cs (re 2) rp (fun k => if k = 2 then of else none) fp9 (fun _ _ => 0) (fun _ _ => none), [((rp 1), .inl (cs 0, cn, .inl cd10))]]) (pcs := [wd_Tok cs (re 0) rt ot tf ta tg]) hw px_X.tt (px_recv hT hw 10 0 rfl rfl rfl) m4_130 m5_61 m4_128 m4_129 m1_2 q_Tok_fail ⟨show 0 + 1 ≤ (4 * lv + 5) from (by first | exact oz_5f82100d56 | omega), show 8 + (1 + 11) + 0 ≤ (120 * lv + 200) from (by first | exact oz_72bd2627d7 | omega)⟩ hl.1 rfl (Nat.le_of_ble_eq_true rfl) d_Exp_figure_69 ⟨show (0 + 1) + 0 ≤ ((2060 - (tf 13).toInt + 200 * (lv : Int)).toNat) from (by first | exact oz_9057dd1d0e o4 o2 | omega), show (0 + 9) + 0 ≤ ((9 * (2060 - (tf 13).toInt + 200 * (lv : Int))).toNat) from (by first | exact oz_3f07a146c3 o4 o2 | omega)⟩) hw hA (fun p23 H locs hp23 hw => ?_)
    obtain ⟨tf22, rfl, h30, e25, e26, e27, e28, e29⟩ := hp23
    obtain ⟨⟨o1, o2⟩, ⟨o3, o4⟩, ⟨o5, o6⟩, o7, o8, hlast⟩ := h30
    have la_tf22 := Int32.le_toInt (tf22 14)
    have ua_tf22 := Int32.toInt_lt (tf22 14)
    have e25 : (tf22 10).toInt = (tf 10).toInt := e25
    have e26 : (tf22 14).toInt = (tf 14).toInt := e26
    have e27 : (tf22 13).toInt = (tf 13).toInt := e27
    have e28 : (tf22 15).toInt = 1 := e28
    have e29 : R_tk_fail ta tf tf22 := e29
    have hw : pw D A s.heap H locs [wd_Exp cs he re eo ef ea eg, wd_Nam cs (re 1) rn no nf na ng, wd_Lst cs (rn 0) (fun _ => 0) (fun k => if k = 0 then (some lq) else none) lf (fun _ _ => 0) (fun _ _ => none), lA cs own lq lc lg, wd_Lst cs (rn 1) (fun _ => 0) (fun k => if k = 0 then (some fq) else none) ff (fun _ _ => 0) (fun _ _ => none), [(fq, .inl (cs 12, fc, .inr (.inr (.inr (.inr fg)))))], P, wd_Opd cs q1 (fun _ => 0) (fun k => if k = 4 then none else none) (upd (upd (upd (upd (upd (upd (upd (upd (fun _ => 0) 0 (tf 13)) 1 0) 2 0) 3 0) 5 1) 6 1) 7 0) 8 v5) (fun _ _ => 0) (fun _ _ => none), wd_Prg cs (re 2) rp (fun k => if k = 2 then of else none) fp9 (fun _ _ => 0) (fun _ _ => none), [((rp 1), .inl (cs 0, cn, .inl cd10))], wd_Tok cs (re 0) rt ot tf22 ta tg] := hw
    refine lv_aload_n S.x S.b d_Exp_figure_72 rfl (lv_at hl 0 rfl) ?_
    have hw : pw D A s.heap _ _ [wd_Exp cs he re eo ef ea eg, wd_Tok cs (re 0) rt ot tf22 ta tg, wd_Prg cs (re 2) rp (fun k => if k = 2 then of else none) fp9 (fun _ _ => 0) (fun _ _ => none), [((rp 1), .inl (cs 0, cn, .inl cd10))], wd_Nam cs (re 1) rn no nf na ng, wd_Lst cs (rn 0) (fun _ => 0) (fun k => if k = 0 then (some lq) else none) lf (fun _ _ => 0) (fun _ _ => none), lA cs own lq lc lg, wd_Lst cs (rn 1) (fun _ => 0) (fun k => if k = 0 then (some fq) else none) ff (fun _ _ => 0) (fun _ _ => none), [(fq, .inl (cs 12, fc, .inr (.inr (.inr (.inr fg)))))], P, wd_Opd cs q1 (fun _ => 0) (fun k => if k = 4 then none else none) (upd (upd (upd (upd (upd (upd (upd (upd (fun _ => 0) 0 (tf 13)) 1 0) 2 0) 3 0) 5 1) 6 1) 7 0) 8 v5) (fun _ _ => 0) (fun _ _ => none)] := hw.sub [0, 10, 8, 9, 1, 2, 3, 4, 5, 6, 7] rfl rfl
    exact pg_aret (v := (some q1)) S hr (Or.inl ⟨_, rfl⟩) hlk hAe hw (show (0 + 1) ≤ ((2060 - (tf 13).toInt + 200 * (lv : Int)).toNat) from by first | exact oz_6ac330b90a e27 o4 o2 | omega) (show (0 + 9) ≤ ((9 * (2060 - (tf 13).toInt + 200 * (lv : Int))).toNat) from by first | exact oz_8862ced228 e27 o4 o2 | omega) (⟨tf22, fp9, cd10, q1, none, (upd (upd (upd (upd (upd (upd (upd (upd (fun _ => 0) 0 (tf 13)) 1 0) 2 0) 3 0) 5 1) 6 1) 7 0) 8 v5), rfl, rfl, (show CurOk (tf22 10) (tf22 13) (tf22 14) (tf22 15) (tf22 17) (ta 0) from ⟨⟨by first | exact o1 | omega, by first | exact o2 | omega⟩, ⟨by first | exact o3 | omega, by first | exact o4 | omega⟩, ⟨by first | exact o5 | omega, by first | exact o6 | omega⟩, by first | exact o7 | omega, by omega, last_eq hlast (rfl)⟩), (show (tf22 10).toInt = (tf 10).toInt from by first | exact e25 | omega), (show (tf 15).toInt ≤ (tf22 15).toInt from by first | exact oz_8a16e2e4ef e17.1 e17.2 e28 | omega), (show (tf 13).toInt ≤ (tf22 13).toInt from by first | exact oz_f9b42d1b56 e27 | omega), (show (tf22 13).toInt ≤ (tf 13).toInt + 3000 - 3000 * (tf 15).toInt from by first | exact oz_76c7b932c0 e17.1 e17.2 e27 | omega), (show (tf22 14).toInt ≤ (tf 14).toInt + 4294967296 * (tf22 15).toInt from by first | exact oz_1b53d9b858 e26 e28 | omega), (show (tf 14).toInt ≤ (tf22 14).toInt + 4294967296 * (tf22 15).toInt from by first | exact oz_4eed9e5dae e26 e28 | omega), (show (tf 13).toInt + 1 ≤ (tf22 13).toInt + (tf22 15).toInt from by first | exact oz_ff21049710 e27 e28 | omega), (show Prel cn (fp 3) cd (fp9 3) cd10 from hrel), (show (fp9 3).toInt ≤ (fp 3).toInt + 100 * ((tf22 13).toInt - (tf 13).toInt) + 100000 * (tf22 15).toInt from by first | exact oz_ff546c03dc hsl_fp9.1 e27 e28 | omega), (show 0 ≤ (tf 13).toInt from by first | exact oz_cb5d37f9f1 e27 o3 | omega), (show 0 ≤ (0 : Int) from by first | exact oz_5a341f00aa | omega), (show 1 ≤ (1 : Int) from by first | exact oz_5ec2f32d28 | omega), (show (1 : Int) ≤ (tf22 13).toInt + 8 * (lv : Int) + 1 from by first | exact oz_b0d2d0e650 o3 | omega), (show Sy P none from (by first | assumption | exact sy_none | exact fy_none | exact Fy.sy (by assumption) | exact sy_some (by assumption))), (show R_ex_figure (RL_ex_parse lv) (RL_ex_operand lv) ta cn tf fp cd tf22 fp9 cd10 none (upd (upd (upd (upd (upd (upd (upd (upd (fun _ => 0) 0 (tf 13)) 1 0) 2 0) 3 0) 5 1) 6 1) 7 0) 8 v5) from (Or.inl ⟨q1, v5, e6, fp9, cd10, v12, hR_fp9, v16, e19, Or.inl ⟨nc20, tf22, e29, rfl, rfl, rfl, rfl, rfl⟩⟩)), (show ((0 + 1) : Int) ≤ (tf22 13).toInt - (tf 13).toInt + 3 * (lv : Int) + 1 from by omega), (show ((0 + 1) : Int) ≤ (tf22 13).toInt - (tf 13).toInt + 200 * (tf22 15).toInt from by omega), (show ((0 + 1) : Int) ≤ 5001 - 5000 * (tf 15).toInt from by omega), (show (0 + 9) ≤ 9 * (0 + 1) from by omega)⟩) d_Exp_figure_73
  · have nc20 : v16.toInt = (17 : Int) := (i_eq (x := v16) (y := 17)).mp c20
    refine lv_aload_n S.x S.b d_Exp_figure_55 rfl (lv_at hl 1 rfl) ?_
    have hkd55 := Kd.lt (v := v16) (by assumption) (by omega) (by omega)
    refine px_get S k_Exp hT hw 0 0 0 (v := .ref (re 0)) rfl rfl rfl (by decide) m2_131 d_Exp_figure_56 ?_
    refine px_callv (pr := [wd_Exp cs he re eo ef ea eg, wd_Nam cs (re 1) rn no nf na ng, wd_Lst cs (rn 0) (fun _ => 0) (fun k => if k = 0 then (some lq) else none) lf (fun _ _ => 0) (fun _ _ => none), lA cs own lq lc lg, wd_Lst cs (rn 1) (fun _ => 0) (fun k => if k = 0 then (some fq) else none) ff (fun _ _ => 0) (fun _ _ => none), [(fq, .inl (cs 12, fc, .inr (.inr (.inr (.inr fg)))))], P, wd_Opd cs q1 (fun _ => 0) (fun k => if k = 4 then none else none) (upd (upd (upd (upd (upd (upd (upd (upd (fun _ => 0) 0 (tf 13)) 1 0) 2 0) 3 0) 5 1) 6 1) 7 0) 8 v5) (fun _ _ => 0) (fun _ _ => none), wd_Prg cs (re 2) rp (fun k => if k = 2 then of else none) fp9 (fun _ _ => 0) (fun _ _ => none), [((rp 1), .inl (cs 0, cn, .inl cd10))]]) (px_runV (As := []) (rest := []) S (c_tk_step l D cs (re 0) rt ot ta tg tf   (show CurOk (tf 10) (tf 13) (tf 14) (tf 15) (tf 17) (ta 0) from ⟨⟨by first | exact o1 | omega, by first | exact o2 | omega⟩, ⟨by first | exact o3 | omega, by first | exact o4 | omega⟩, ⟨by first | exact o5 | omega, by first | exact o6 | omega⟩, by first | exact o7 | omega, by first | exact fun q9 => ⟨oz_4cdb73375f o8.1 q9, oz_329f0ac40c o8.2 q9⟩ | omega, last_eq hlast (rfl)⟩) _) hT (pr := [wd_Exp cs he re eo ef ea eg, wd_Nam cs (re 1) rn no nf na ng, wd_Lst cs (rn 0) (fun _ => 0) (fun k => if k = 0 then (some lq) else none) lf (fun _ _ => 0) (fun _ _ => none), lA cs own lq lc lg, wd_Lst cs (rn 1) (fun _ => 0) (fun k => if k = 0 then (some fq) else none) ff (fun _ _ => 0) (fun _ _ => none), [(fq, .inl (cs 12, fc, .inr (.inr (.inr (.inr fg)))))], P, wd_Opd cs q1 (fun _ => 0) (fun k => if k = 4 then none else none) (upd (upd (upd (upd (upd (upd (upd (upd (fun _ => 0) 0 (tf 13)) 1 0) 2 0) 3 0) 5 1) 6 1) 7 0) 8 v5) (fun _ _ => 0) (fun _ _ => none), wd_Prg cs (re 2) rp (fun k => if k = 2 then of else none) fp9 (fun _ _ => 0) (fun _ _ => none), [((rp 1), .inl (cs 0, cn, .inl cd10))]]) (pcs := [wd_Tok cs (re 0) rt ot tf ta tg]) hw px_X.tt (px_recv hT hw 10 0 rfl rfl rfl) m4_120 m5_31 m4_118 m4_119 m1_2 q_Tok_step ⟨show 0 + 1 ≤ (4 * lv + 5) from (by first | exact oz_5f82100d56 | omega), show 8 + (1 + 11) + 0 ≤ (120 * lv + 200) from (by first | exact oz_72bd2627d7 | omega)⟩ hl.1 rfl (Nat.le_of_ble_eq_true rfl) d_Exp_figure_59 ⟨show (0 + 1) + 0 ≤ ((2060 - (tf 13).toInt + 200 * (lv : Int)).toNat) from (by first | exact oz_9057dd1d0e o4 o2 | omega), show (0 + 9) + 0 ≤ ((9 * (2060 - (tf 13).toInt + 200 * (lv : Int))).toNat) from (by first | exact oz_3f07a146c3 o4 o2 | omega)⟩) hw hA (fun p32 H locs hp32 hw => ?_)
    obtain ⟨tf31, rfl, h41, e34, e35, e36, e37, e38, e39, e40⟩ := hp32
    obtain ⟨⟨o1, o2⟩, ⟨o3, o4⟩, ⟨o5, o6⟩, o7, o8, hlast⟩ := h41
    have la_tf31 := Int32.le_toInt (tf31 14)
    have ua_tf31 := Int32.toInt_lt (tf31 14)
    have e34 : (tf31 10).toInt = (tf 10).toInt := e34
    have e35 : (tf31 14).toInt = (tf 14).toInt := e35
    have e36 : (tf31 15).toInt = (tf 15).toInt := e36
    have e37 : (tf 13).toInt ≤ (tf31 13).toInt := e37
    have e38 : (tf31 13).toInt ≤ (tf 13).toInt + 1 := e38
    replace e39 : (tf 10).toInt - (tf 13).toInt - 1 ≤ 2100 * ((tf31 13).toInt - (tf 13).toInt) := by have := Int32.le_toInt (tf 13); have := Int32.toInt_lt (tf 13); have := Int32.le_toInt (tf 10); have := Int32.toInt_lt (tf 10); have := Int32.le_toInt (tf31 13); have := Int32.toInt_lt (tf31 13); omega
    have e40 : R_tk_step tf tf31 := e40
    have hw : pw D A s.heap H locs [wd_Exp cs he re eo ef ea eg, wd_Nam cs (re 1) rn no nf na ng, wd_Lst cs (rn 0) (fun _ => 0) (fun k => if k = 0 then (some lq) else none) lf (fun _ _ => 0) (fun _ _ => none), lA cs own lq lc lg, wd_Lst cs (rn 1) (fun _ => 0) (fun k => if k = 0 then (some fq) else none) ff (fun _ _ => 0) (fun _ _ => none), [(fq, .inl (cs 12, fc, .inr (.inr (.inr (.inr fg)))))], P, wd_Opd cs q1 (fun _ => 0) (fun k => if k = 4 then none else none) (upd (upd (upd (upd (upd (upd (upd (upd (fun _ => 0) 0 (tf 13)) 1 0) 2 0) 3 0) 5 1) 6 1) 7 0) 8 v5) (fun _ _ => 0) (fun _ _ => none), wd_Prg cs (re 2) rp (fun k => if k = 2 then of else none) fp9 (fun _ _ => 0) (fun _ _ => none), [((rp 1), .inl (cs 0, cn, .inl cd10))], wd_Tok cs (re 0) rt ot tf31 ta tg] := hw
    refine lv_goto (tgt := 72) S.x S.b d_Exp_figure_62 (by decide) ?_
    refine lv_aload_n S.x S.b d_Exp_figure_72 rfl (lv_at hl 0 rfl) ?_
    have hw : pw D A s.heap _ _ [wd_Exp cs he re eo ef ea eg, wd_Tok cs (re 0) rt ot tf31 ta tg, wd_Prg cs (re 2) rp (fun k => if k = 2 then of else none) fp9 (fun _ _ => 0) (fun _ _ => none), [((rp 1), .inl (cs 0, cn, .inl cd10))], wd_Nam cs (re 1) rn no nf na ng, wd_Lst cs (rn 0) (fun _ => 0) (fun k => if k = 0 then (some lq) else none) lf (fun _ _ => 0) (fun _ _ => none), lA cs own lq lc lg, wd_Lst cs (rn 1) (fun _ => 0) (fun k => if k = 0 then (some fq) else none) ff (fun _ _ => 0) (fun _ _ => none), [(fq, .inl (cs 12, fc, .inr (.inr (.inr (.inr fg)))))], P, wd_Opd cs q1 (fun _ => 0) (fun k => if k = 4 then none else none) (upd (upd (upd (upd (upd (upd (upd (upd (fun _ => 0) 0 (tf 13)) 1 0) 2 0) 3 0) 5 1) 6 1) 7 0) 8 v5) (fun _ _ => 0) (fun _ _ => none)] := hw.sub [0, 10, 8, 9, 1, 2, 3, 4, 5, 6, 7] rfl rfl
    exact pg_aret (v := (some q1)) S hr (Or.inl ⟨_, rfl⟩) hlk hAe hw (show (0 + 1) ≤ ((2060 - (tf 13).toInt + 200 * (lv : Int)).toNat) from by first | exact oz_8b3a14fd6e e39 o4 e34 o2 | omega) (show (0 + 9) ≤ ((9 * (2060 - (tf 13).toInt + 200 * (lv : Int))).toNat) from by first | exact oz_9e1ad11a85 e39 o4 e34 o2 | omega) (⟨tf31, fp9, cd10, q1, none, (upd (upd (upd (upd (upd (upd (upd (upd (fun _ => 0) 0 (tf 13)) 1 0) 2 0) 3 0) 5 1) 6 1) 7 0) 8 v5), rfl, rfl, (show CurOk (tf31 10) (tf31 13) (tf31 14) (tf31 15) (tf31 17) (ta 0) from ⟨⟨by first | exact o1 | omega, by first | exact o2 | omega⟩, ⟨by first | exact o3 | omega, by first | exact o4 | omega⟩, ⟨by first | exact o5 | omega, by first | exact o6 | omega⟩, by first | exact o7 | omega, by omega, last_eq hlast (rfl)⟩), (show (tf31 10).toInt = (tf 10).toInt from by first | exact e34 | omega), (show (tf 15).toInt ≤ (tf31 15).toInt from by first | exact oz_f9b42d1b56 e36 | omega), (show (tf 13).toInt ≤ (tf31 13).toInt from by first | exact e37 | omega), (show (tf31 13).toInt ≤ (tf 13).toInt + 3000 - 3000 * (tf 15).toInt from by omega), (show (tf31 14).toInt ≤ (tf 14).toInt + 4294967296 * (tf31 15).toInt from by first | exact oz_2745da4782 o5 e35 | omega), (show (tf 14).toInt ≤ (tf31 14).toInt + 4294967296 * (tf31 15).toInt from by first | exact oz_2c843e2a13 o5 e35 | omega), (show (tf 13).toInt + 1 ≤ (tf31 13).toInt + (tf31 15).toInt from by omega), (show Prel cn (fp 3) cd (fp9 3) cd10 from hrel), (show (fp9 3).toInt ≤ (fp 3).toInt + 100 * ((tf31 13).toInt - (tf 13).toInt) + 100000 * (tf31 15).toInt from by omega), (show 0 ≤ (tf 13).toInt from by omega), (show 0 ≤ (0 : Int) from by first | exact oz_5a341f00aa | omega), (show 1 ≤ (1 : Int) from by first | exact oz_5ec2f32d28 | omega), (show (1 : Int) ≤ (tf31 13).toInt + 8 * (lv : Int) + 1 from by first | exact oz_b0d2d0e650 o3 | omega), (show Sy P none from (by first | assumption | exact sy_none | exact fy_none | exact Fy.sy (by assumption) | exact sy_some (by assumption))), (show R_ex_figure (RL_ex_parse lv) (RL_ex_operand lv) ta cn tf fp cd tf31 fp9 cd10 none (upd (upd (upd (upd (upd (upd (upd (upd (fun _ => 0) 0 (tf 13)) 1 0) 2 0) 3 0) 5 1) 6 1) 7 0) 8 v5) from (Or.inl ⟨q1, v5, e6, fp9, cd10, v12, hR_fp9, v16, e19, Or.inr ⟨nc20, tf31, e40, rfl, rfl, rfl, rfl, rfl⟩⟩)), (show ((0 + 1) : Int) ≤ (tf31 13).toInt - (tf 13).toInt + 3 * (lv : Int) + 1 from by omega), (show ((0 + 1) : Int) ≤ (tf31 13).toInt - (tf 13).toInt + 200 * (tf31 15).toInt from by omega), (show ((0 + 1) : Int) ≤ 5001 - 5000 * (tf 15).toInt from by omega), (show (0 + 9) ≤ 9 * (0 + 1) from by omega)⟩) d_Exp_figure_73
