theorem oz_74670a6e63  : (-1 : Int) ≤ 15 := by omega
theorem oz_4554306096 {a0 a1 a2 : Int} (h0 : a0 = a1 + (10 : Int)) (h1 : a1 = a2 - (65 : Int)) (h2 : ¬ a2 < (65 : Int)) : -1 ≤ a0 := by omega
theorem oz_6fb5beb8c7 {a0 a1 a2 : Int} (h0 : a0 = a1 + (10 : Int)) (h1 : a1 = a2 - (65 : Int)) (h2 : ¬ (70 : Int) < a2) : a0 ≤ 15 := by omega
theorem oz_74a33bee28 {a0 : Int} (h0 : ¬ a0 < (65 : Int)) : 48 ≤ a0 := by omega
theorem oz_c012b0f594 {a0 a1 a2 : Int} (h0 : a0 = a1 + (10 : Int)) (h1 : a1 = a2 - (65 : Int)) (h2 : (102 : Int) < a2) : -1 ≤ a0 := by omega
theorem oz_5e4a46b043 {a0 a1 : Int} (h0 : (102 : Int) < a1) (h1 : ¬ (70 : Int) < a1) : a0 ≤ 15 := by omega
theorem oz_e582639630 {a0 : Int} (h0 : (102 : Int) < a0) : 48 ≤ a0 := by omega
theorem oz_19a540d9ab {a0 a1 a2 : Int} (h0 : a0 = a1 + (10 : Int)) (h1 : a1 = a2 - (97 : Int)) (h2 : ¬ a2 < (97 : Int)) : -1 ≤ a0 := by omega
theorem oz_91164d6c55 {a0 a1 a2 : Int} (h0 : a0 = a1 + (10 : Int)) (h1 : a1 = a2 - (97 : Int)) (h2 : ¬ (102 : Int) < a2) : a0 ≤ 15 := by omega
theorem oz_0139980d7e {a0 : Int} (h0 : ¬ a0 < (97 : Int)) : 48 ≤ a0 := by omega
theorem oz_0bfa03eb15 {a0 a1 : Int} (h0 : a1 = a0 - (48 : Int)) (h1 : 0 ≤ a1) : 48 ≤ a0 := by omega
theorem oz_dab224bb71  : (-1 : Int) ≤ 1126 := by omega
theorem oz_30aead52e2 {a0 : Int} (h0 : ¬ a0 < (32 : Int)) : -1 ≤ a0 := by omega
theorem oz_5123c04de2 {a0 : Int} (h0 : ¬ (126 : Int) < a0) : a0 ≤ 1126 := by omega
theorem oz_0859334a04 {a0 a1 a2 : Int} (h0 : ¬ a2 < (32 : Int)) (h1 : a0 < a1 ∨ a2 = -1) : a0 < a1 := by omega
theorem oz_aafb056208 {a0 a1 : Int} (h0 : a0 = a1 + (1000 : Int)) (h1 : (0 : Int) ≤ a1) : -1 ≤ a0 := by omega
theorem oz_f9387941a8 {a0 a1 a2 : Int} (h0 : a0 = a1 + (1000 : Int)) (h1 : a1 = a2) (h2 : a2 ≤ 100) : a0 ≤ 1126 := by omega
theorem oz_9e62084ec1 {a0 a1 a2 a3 : Int} (h0 : a2 = a0 + (1 : Int)) (h1 : (0 : Int) ≤ a3) (h2 : a2 < a1 ∨ a3 = -1) : a0 < a1 := by omega
theorem oz_5d4e957269 {a0 a1 a2 a3 : Int} (h0 : a2 = a0 + (1 : Int)) (h1 : (0 : Int) ≤ a3) (h2 : a2 < a1 ∨ a3 = -1) : a0 + 1 < a1 := by omega
theorem oz_733703a624 {a0 a1 : Int} (h0 : a0 = a1 + (1000 : Int)) (h1 : a1 = (92 : Int)) : a0 ≤ 1126 := by omega
theorem oz_c05fb31a7b {a0 a1 a2 a3 : Int} (h0 : a2 = a0 + (1 : Int)) (h1 : a3 = (92 : Int)) (h2 : a2 < a1 ∨ a3 = -1) : a0 < a1 := by omega
theorem oz_43ddf3bdef {a0 a1 a2 a3 : Int} (h0 : a2 = a0 + (1 : Int)) (h1 : a3 = (92 : Int)) (h2 : a2 < a1 ∨ a3 = -1) : a0 + 1 < a1 := by omega
theorem oz_b486be3c5d {a0 : Int} (h0 : a0 = (0 : Int) + (1000 : Int)) : -1 ≤ a0 := by omega
theorem oz_58bcf8c8e6 {a0 : Int} (h0 : a0 = (0 : Int) + (1000 : Int)) : a0 ≤ 1126 := by omega
theorem oz_69663cae9c {a0 a1 a2 a3 : Int} (h0 : a2 = a0 + (1 : Int)) (h1 : a3 = (48 : Int)) (h2 : a2 < a1 ∨ a3 = -1) : a0 < a1 := by omega
theorem oz_14689e2637 {a0 a1 a2 a3 : Int} (h0 : a2 = a0 + (1 : Int)) (h1 : a3 = (48 : Int)) (h2 : a2 < a1 ∨ a3 = -1) : a0 + 1 < a1 := by omega
theorem oz_74d7af5635 {a0 : Int} (h0 : a0 = (10 : Int) + (1000 : Int)) : -1 ≤ a0 := by omega
theorem oz_3af861a7fc {a0 : Int} (h0 : a0 = (10 : Int) + (1000 : Int)) : a0 ≤ 1126 := by omega
theorem oz_2d5a24c297 {a0 a1 a2 a3 : Int} (h0 : a2 = a0 + (1 : Int)) (h1 : a3 = (110 : Int)) (h2 : a2 < a1 ∨ a3 = -1) : a0 < a1 := by omega
theorem oz_73f89394a0 {a0 a1 a2 a3 : Int} (h0 : a2 = a0 + (1 : Int)) (h1 : a3 = (110 : Int)) (h2 : a2 < a1 ∨ a3 = -1) : a0 + 1 < a1 := by omega
theorem oz_1b364b1c5f {a0 : Int} (h0 : a0 = 1) : 0 ≤ a0 := by omega
theorem oz_02032f9386 {a0 : Int} (h0 : a0 = 1) : a0 ≤ 1 := by omega
theorem oz_f24dcc9049 {a0 a1 a2 a4 : Int} {n3 : Nat} (h0 : a2 = 1) (h1 : a4 < a0) (h2 : 2*(a0-a4)+1 < (n3 : Int) + 1) (h3 : a0 ≤ a1) : 2*(a0-a1)+a2 < (n3 : Int) := by omega
theorem oz_557a37817b {a0 a1 a2 : Int} (h0 : a0 = a2) (h1 : a2 < a1) : a0 ≤ a1 := by omega
theorem oz_ecca3dfb0c {a0 a1 a3 : Int} {n2 : Nat} (h0 : a1 = a3) (h1 : 2*(a0-a3)+1 < (n2 : Int) + 1) : 2*(a0-a1)+(0 : Int) < (n2 : Int) := by omega
theorem oz_940de6a9c8 {a0 a1 a2 : Int} (h0 : a2 ≤ a1) (h1 : ¬ a2 ≤ a1) : a0 = a1 + (2 : Int) := by omega
theorem oz_1324c69164 {a0 a1 a2 : Int} (h0 : a1 ≤ a2) (h1 : ¬ a1 ≤ a2) : 0 ≤ a0 := by omega
theorem oz_f113aea7dc {a0 a1 a2 : Int} (h0 : a1 ≤ a2) (h1 : ¬ a1 ≤ a2) : a0 ≤ a1 := by omega
theorem oz_1fa527725d {a0 a1 a2 a3 a4 : Int} (h0 : a0 ≤ a2) (h1 : a1 = a3 + (2 : Int)) (h2 : a4 = a2) (h3 : a4+2 ≤ a3) : a0 ≤ a1 := by omega
theorem oz_2aa15b7bba {a0 a1 a3 a4 a5 : Int} {n2 : Nat} (h0 : 2*(a0-a3)+1 < (n2 : Int) + 1) (h1 : a1 = a4 + (2 : Int)) (h2 : a5 = a3) (h3 : a5+2 ≤ a4) : 2*(a0-a1)+(1 : Int) < (n2 : Int) := by omega
theorem oz_824e588cb8 {a0 a1 a2 a3 : Int} (h0 : a1+2 ≤ a0) (h1 : a1 = a2) (h2 : 0 ≤ a2) (h3 : ¬ a3 ≤ a0) (h4 : a3 ≤ 2048) : 0 ≤ a0 ∧ a0 < ((2048 : Nat) : Int) := by omega
theorem oz_c62a6f59f1 {a0 a1 a2 : Int} (h0 : a0+2 ≤ a2) (h1 : a1 = a2 + 1) : a0+2 ≤ a1 := by omega
theorem oz_6feed251f4 {a0 a1 a2 : Int} (h0 : ¬ a1 ≤ a2) (h1 : a0 = a2 + 1) : a0 ≤ a1+2 := by omega
theorem oz_76ad6441cd {a0 a1 a3 : Int} {n2 : Nat} (h0 : a0+3-a3 < ((n2 + 1 : Nat) : Int)) (h1 : a1 = a3 + 1) : a0+3-a1 < (n2 : Int) := by omega
theorem oz_64f0fc27da {a0 a1 a2 a3 : Int} (h0 : a0 = a1 + (1 : Int)) (h1 : a2+2 ≤ a1) (h2 : a2 = a3) (h3 : 0 ≤ a3) : 0 ≤ a0 := by omega
theorem oz_cb6fc200ec {a0 a1 a2 : Int} (h0 : ¬ a1 ≤ a2) (h1 : a1 ≤ a2) : 0 ≤ a0 := by omega
theorem oz_966a2b43e9 {a0 a1 a2 : Int} (h0 : a0+2 ≤ a2) (h1 : ¬ a1 ≤ a2) : a0 ≤ a1 := by omega
theorem oz_778752150f {a0 a1 a3 : Int} {n2 : Nat} (h0 : ¬ a0 ≤ a3) (h1 : a0 ≤ a3) : 2*(a0-a1)+(0 : Int) < (n2 : Int) := by omega
theorem oz_c0992979bc {a0 a1 a2 a3 : Int} (h0 : a0 = a1 + (2 : Int)) (h1 : a2+2 ≤ a1) (h2 : a2 = a3) (h3 : 0 ≤ a3) : 0 ≤ a0 := by omega
theorem oz_aec1ea6af1 {a0 a1 a2 a3 a4 : Int} (h0 : a0 = a2 + (2 : Int)) (h1 : a3 = (47 : Int)) (h2 : a4 < a1 ∨ a3 = -1) (h3 : a4 = a2 + (1 : Int)) : a0 ≤ a1 := by omega
theorem oz_39d3e19a7a {a0 a1 a2 a3 : Int} (h0 : a0 = a2 + 1) (h1 : a3 = (32 : Int)) (h2 : a2 < a1 ∨ a3 = -1) : a0 ≤ a1 := by omega
theorem oz_03013327c6 {a0 a1 a2 a4 : Int} {n3 : Nat} (h0 : 2*(a0-a4)+a2 < ((n3 + 1 : Nat) : Int)) (h1 : a1 = a4 + 1) : 2*(a0-a1)+a2 < (n3 : Int) := by omega
theorem oz_7c6cc53d41 {a0 a1 a2 a3 : Int} (h0 : a0 = a2 + 1) (h1 : a3 = (9 : Int)) (h2 : a2 < a1 ∨ a3 = -1) : a0 ≤ a1 := by omega
theorem oz_ccc010c257 {a0 a1 a2 a3 : Int} (h0 : a0 = a2 + 1) (h1 : a3 = (10 : Int)) (h2 : a2 < a1 ∨ a3 = -1) : a0 ≤ a1 := by omega
theorem oz_e06991e3fb {a0 a1 a3 : Int} {n2 : Nat} (h0 : 2*(a0-a1)+a3 < ((n2 + 1 : Nat) : Int)) (h1 : 0 ≤ a3) (h2 : ¬ a3 = (0 : Int)) : 2*(a0-a1)+(0 : Int) < (n2 : Int) := by omega
theorem oz_f6d24a90ef {a0 a1 a2 a3 : Int} (h0 : a2 = a0 + (1 : Int)) (h1 : a3 = (42 : Int)) (h2 : a2 < a1 ∨ a3 = -1) : a0 < a1 := by omega
theorem oz_07b5f84571 {a0 a1 : Int} (h0 : a1 = a0 + (2 : Int)) : a0+2 ≤ a1 := by omega
theorem oz_6d110efbf9 {a0 a1 a2 : Int} (h0 : a2 ≤ a1) (h1 : a0 = a2 + (2 : Int)) : a0 ≤ a1+2 := by omega
theorem oz_5647a554af {a0 a1 a3 : Int} {n2 : Nat} (h0 : 2*(a0-a1)+a3 < ((n2 + 1 : Nat) : Int)) (h1 : 0 ≤ a3) (h2 : ¬ a3 = (0 : Int)) : 2*(a0-a1)+1 < (n2 : Int) + 1 := by omega
theorem oz_8a875c4039 {a0 a1 a2 a3 : Int} (h0 : a2 = a0 + (1 : Int)) (h1 : a3 = (47 : Int)) (h2 : a2 < a1 ∨ a3 = -1) : a0 < a1 := by omega
theorem oz_e4b697ca97 {a0 a1 a2 a3 : Int} (h0 : a0 = a2 + 1) (h1 : a3 = (13 : Int)) (h2 : a2 < a1 ∨ a3 = -1) : a0 ≤ a1 := by omega
theorem oz_202527c70a {n0 : Nat} (h0 : n0 ≤ 100) : n0 ≤ 1000000 := by omega
theorem oz_56467b673d {a0 a2 : Int} {n1 : Nat} (h0 : a2 = (n1 : Int)) (h1 : ¬ a2 ≤ a0) : a0 < (n1 : Int) := by omega
theorem oz_917a48507a {a1 a3 : Int} {n0 n2 : Nat} (h0 : (n0 : Int) - a3 + 1 < ((n2 + 1 : Nat) : Int)) (h1 : a1 = a3 + 1) : (n0 : Int) - a1 + 1 < (n2 : Int) := by omega
theorem oz_cfd75cb044  : (-1 : Int) ≤ 14 := by omega
theorem oz_e53655270d {a0 : Int} (h0 : 0 ≤ a0) (h1 : ¬ (15 : Int) ≤ a0) : 0 ≤ a0 ∧ a0 < ((15 : Nat) : Int) := by omega
theorem oz_d88e2e5bcf {a0 a1 : Int} (h0 : a0 = a1 + 1) (h1 : ¬ (15 : Int) ≤ a1) : a0 ≤ 15 := by omega
theorem oz_80a71fb0d2 {a0 a2 : Int} {n1 : Nat} (h0 : 16 - a2 < ((n1 + 1 : Nat) : Int)) (h1 : a0 = a2 + 1) : 16 - a0 < (n1 : Int) := by omega
theorem oz_7530b11dfe {a0 : Int} (h0 : ¬ (15 : Int) ≤ a0) : a0 ≤ 14 := by omega
theorem oz_57f1fa637d  : (0 : Int) ≤ 15 := by omega
theorem m11_150 : Cond.methodLink "HomeSystemModel$Program" 296 ⟨"HomeSystemModel$Program", "isDigit", "(I)Z"⟩ ∈ AL := AL_11 (List.mem_of_getElem? (i := 150) rfl) rfl
theorem m11_152 : Cond.code ⟨"HomeSystemModel$Program", "isDigit", "(I)Z"⟩ prog_16_method_3_code 1 (Option.some FieldType.boolean) ∈ AL := AL_11 (List.mem_of_getElem? (i := 152) rfl) rfl
theorem m1_21 : Cond.initialized "HomeSystemModel$Program" ∈ AL := AL_1 (List.mem_of_getElem? (i := 21) rfl) rfl
theorem m11_151 : Cond.static ⟨"HomeSystemModel$Program", "isDigit", "(I)Z"⟩ ∈ AL := AL_11 (List.mem_of_getElem? (i := 151) rfl) rfl
theorem m9_229 : Cond.fieldLink "HomeSystemModel$Program" 292 "HomeSystemModel$Program" "length" "I" ∈ AL := AL_9 (List.mem_of_getElem? (i := 229) rfl) rfl
theorem m9_228 : Cond.fieldLink "HomeSystemModel$Program" 190 "HomeSystemModel$Program" "text" "[B" ∈ AL := AL_9 (List.mem_of_getElem? (i := 228) rfl) rfl
theorem m11_139 : Cond.methodLink "HomeSystemModel$Program" 300 ⟨"HomeSystemModel$Program", "byteAt", "(I)I"⟩ ∈ AL := AL_11 (List.mem_of_getElem? (i := 139) rfl) rfl
theorem m11_142 : Cond.code ⟨"HomeSystemModel$Program", "byteAt", "(I)I"⟩ prog_16_method_2_code 2 (Option.some FieldType.int) ∈ AL := AL_11 (List.mem_of_getElem? (i := 142) rfl) rfl
theorem ms_7_15 : Cond.selects "HomeSystemModel$Program" ⟨"HomeSystemModel$Program", "byteAt", "(I)I"⟩ ⟨"HomeSystemModel$Program", "byteAt", "(I)I"⟩ ∈ AL := AL_p (q := (⟨"HomeSystemModel$Program", "byteAt", "(I)I"⟩, 69)) (by unfold lw_privs; exact List.mem_append_right _ (List.mem_append_right _ (List.mem_append_right _ (List.mem_append_right _ (List.mem_append_right _ (List.mem_append_right _ (List.mem_append_left _ (List.mem_of_getElem? (i := 15) rfl))))))))
theorem m11_141 : Cond.instanceMethod ⟨"HomeSystemModel$Program", "byteAt", "(I)I"⟩ ∈ AL := AL_11 (List.mem_of_getElem? (i := 141) rfl) rfl
theorem m9_231 : Cond.fieldLink "HomeSystemModel$Program" 194 "HomeSystemModel$Program" "starts" "[I" ∈ AL := AL_9 (List.mem_of_getElem? (i := 231) rfl) rfl
theorem m9_230 : Cond.fieldLink "HomeSystemModel$Program" 304 "HomeSystemModel$Program" "count" "I" ∈ AL := AL_9 (List.mem_of_getElem? (i := 230) rfl) rfl
theorem m9_232 : Cond.fieldLink "HomeSystemModel$Program" 198 "HomeSystemModel$Program" "sizes" "[I" ∈ AL := AL_9 (List.mem_of_getElem? (i := 232) rfl) rfl
theorem m9_233 : Cond.fieldLink "HomeSystemModel$Program" 201 "HomeSystemModel$Program" "sorts" "[B" ∈ AL := AL_9 (List.mem_of_getElem? (i := 233) rfl) rfl
theorem m9_234 : Cond.fieldLink "HomeSystemModel$Program" 204 "HomeSystemModel$Program" "which" "[I" ∈ AL := AL_9 (List.mem_of_getElem? (i := 234) rfl) rfl
theorem m11_157 : Cond.methodLink "HomeSystemModel$Program" 307 ⟨"java/lang/String", "length", "()I"⟩ ∈ AL := AL_11 (List.mem_of_getElem? (i := 157) rfl) rfl
theorem m11_162 : Cond.methodLink "HomeSystemModel$Program" 310 ⟨"java/lang/String", "charAt", "(I)C"⟩ ∈ AL := AL_11 (List.mem_of_getElem? (i := 162) rfl) rfl
theorem m9_223 : Cond.fieldLink "HomeSystemModel$Program" 41 "HomeSystemModel$Program" "keywords" "[Ljava/lang/String;" ∈ AL := AL_9 (List.mem_of_getElem? (i := 223) rfl) rfl
theorem m11_158 : Cond.methodLink "HomeSystemModel$Program" 314 ⟨"HomeSystemModel$Program", "stands", "(ILjava/lang/String;)Z"⟩ ∈ AL := AL_11 (List.mem_of_getElem? (i := 158) rfl) rfl
theorem m11_161 : Cond.code ⟨"HomeSystemModel$Program", "stands", "(ILjava/lang/String;)Z"⟩ prog_16_method_9_code 5 (Option.some FieldType.boolean) ∈ AL := AL_11 (List.mem_of_getElem? (i := 161) rfl) rfl
theorem ms_8_2 : Cond.selects "HomeSystemModel$Program" ⟨"HomeSystemModel$Program", "stands", "(ILjava/lang/String;)Z"⟩ ⟨"HomeSystemModel$Program", "stands", "(ILjava/lang/String;)Z"⟩ ∈ AL := AL_p (q := (⟨"HomeSystemModel$Program", "stands", "(ILjava/lang/String;)Z"⟩, 69)) (by unfold lw_privs; exact List.mem_append_right _ (List.mem_append_right _ (List.mem_append_right _ (List.mem_append_right _ (List.mem_append_right _ (List.mem_append_right _ (List.mem_append_right _ (List.mem_append_left _ (List.mem_of_getElem? (i := 2) rfl)))))))))
theorem m11_160 : Cond.instanceMethod ⟨"HomeSystemModel$Program", "stands", "(ILjava/lang/String;)Z"⟩ ∈ AL := AL_11 (List.mem_of_getElem? (i := 160) rfl) rfl
/-! THE REFERENCE'S TOKENS -/
theorem i8_id {s : Int32} (h0 : -128 ≤ s.toInt) (h1 : s.toInt ≤ 127) : s.toInt8.toInt32 = s := by
  refine Int32.toInt_inj.mp ?_
  rw [Int8.toInt_toInt32, Int32.toInt_toInt8, Int.bmod_def]
  split <;> omega
/-- the byte at i, or -1 -/
def btR (ta : Nat → Nat → Int32) (L i : Int) : Int := if i < L then (ta 4 i.toNat).toInt else -1
def BtV (ta : Nat → Nat → Int32) (L i v : Int) : Prop := v = btR ta L i
def ltI (c : Int) : Int := if (97 ≤ c ∧ c ≤ 122) ∨ (65 ≤ c ∧ c ≤ 90) ∨ c = 95 then 1 else 0
def dgI (c : Int) : Int := if 48 ≤ c ∧ c ≤ 57 then 1 else 0
def LtV (c v : Int) : Prop := v = ltI c
def DgV (c v : Int) : Prop := v = dgI c
theorem bt_mk {ta : Nat → Nat → Int32} {L : Int} {i v : Int32} (h0 : 0 ≤ i.toInt) (h : i.toInt < L) (e : v = ta 4 i.toNatClampNeg) : BtV ta L i.toInt v.toInt := by
  unfold BtV btR
  rw [if_pos h, e]
  have : i.toNatClampNeg = i.toInt.toNat := by have := cl_nat h0; omega
  rw [this]
theorem bt_no {ta : Nat → Nat → Int32} {L : Int} {i : Int32} {v : Int} (h : ¬ i.toInt < L) (e : v = -1) : BtV ta L i.toInt v := by
  unfold BtV btR
  rw [if_neg h, e]
/-- the first letter is one: it's taken -/
theorem lt_first {ta : Nat → Nat → Int32} {L i j c d v w u : Int} (h1 : BtV ta L i c) (h2 : LtV c v) (hv : v = 1) (h3 : BtV ta L j d) (h4 : LtV d w) (hw : w = 0) (e : j = i + u) : u ≠ 0 := by
  intro hu
  have e' : j = i := by omega
  subst e'
  unfold BtV at h1 h3
  unfold LtV at h2 h4
  rw [h3, ← h1] at h4
  omega
theorem dg_first {ta : Nat → Nat → Int32} {L i j c d v w u : Int} (h1 : BtV ta L i c) (h2 : DgV c v) (hv : v = 1) (h3 : BtV ta L j d) (h4 : DgV d w) (hw : w = 0) (e : j = i + u) : u ≠ 0 := by
  intro hu
  have e' : j = i := by omega
  subst e'
  unfold BtV at h1 h3
  unfold DgV at h2 h4
  rw [h3, ← h1] at h4
  omega
/-- one token -/
def TkT (L : Int) (ta : Nat → Nat → Int32) (t : Nat) : Prop := (1 ≤ (ta 9 t).toInt ∧ (ta 9 t).toInt ≤ 7) ∧ (0 ≤ (ta 7 t).toInt ∧ 0 ≤ (ta 8 t).toInt ∧ (ta 7 t).toInt + (ta 8 t).toInt ≤ L) ∧ ((ta 9 t).toInt = 5 → 0 ≤ (ta 10 t).toInt ∧ (ta 10 t).toInt < 43 ∧ (ta 8 t).toInt = (mlen (ta 10 t).toNatClampNeg : Int)) ∧ ((ta 9 t).toInt = 2 → 0 ≤ (ta 10 t).toInt ∧ (ta 10 t).toInt ≤ 14 ∧ (ta 8 t).toInt = (klen (ta 10 t).toNatClampNeg : Int)) ∧ ((ta 9 t).toInt = 4 → 0 ≤ (ta 10 t).toInt ∧ (ta 10 t).toInt ≤ 200 ∧ (ta 10 t).toInt + 2 ≤ (ta 8 t).toInt) ∧ ((ta 9 t).toInt ≤ 5 → 1 ≤ (ta 8 t).toInt)
/-- c tokens are read, up to the place e -/
def TkP (L : Int) (ta : Nat → Nat → Int32) (c : Int) (e : Int) : Prop := ∀ t : Nat, (t : Int) < c → TkT L ta t ∧ (ta 9 t).toInt ≤ 5 ∧ (ta 7 t).toInt + (ta 8 t).toInt ≤ e ∧ ((t : Int) + 1 < c → (ta 7 t).toInt + (ta 8 t).toInt ≤ (ta 7 (t + 1)).toInt)
/-- all are read -/
def TkI (tf : Nat → Int32) (ta : Nat → Nat → Int32) : Prop := (0 ≤ (tf 5).toInt ∧ (tf 5).toInt ≤ 2048) ∧ (1 ≤ (tf 6).toInt ∧ (tf 6).toInt ≤ (tf 5).toInt + 1) ∧ (∀ t : Nat, (t : Int) < (tf 6).toInt → TkT (tf 5).toInt ta t) ∧ (∀ t : Nat, (t : Int) + 1 < (tf 6).toInt → (ta 9 t).toInt ≤ 5 ∧ (ta 7 t).toInt + (ta 8 t).toInt ≤ (ta 7 (t + 1)).toInt) ∧ ∀ t : Nat, (t : Int) + 1 = (tf 6).toInt → 6 ≤ (ta 9 t).toInt
/-- a token was laid at c -/
def TkU (ta ta' : Nat → Nat → Int32) (x a b s w : Int32) : Prop := (∀ k t : Nat, t ≠ x.toNatClampNeg ∨ k < 7 → ta' k t = ta k t) ∧ ta' 7 x.toNatClampNeg = a ∧ ta' 8 x.toNatClampNeg = b ∧ (-128 ≤ s.toInt → s.toInt ≤ 127 → ta' 9 x.toNatClampNeg = s) ∧ ta' 10 x.toNatClampNeg = w
theorem tku_mk {ta : Nat → Nat → Int32} {x a b s z w : Int32} (hz : z = s.toInt8.toInt32) : TkU ta (va_up (va_up (va_up (va_up ta 7 (upd (ta 7) x.toNatClampNeg a)) 8 (upd (ta 8) x.toNatClampNeg b)) 9 (upd (ta 9) x.toNatClampNeg (vp_nar .byte z))) 10 (upd (ta 10) x.toNatClampNeg w)) x a b s w := by
  refine ⟨fun k t h => ?_, ?_, ?_, fun h0 h1 => ?_, ?_⟩
  · rcases h with h | h
    · by_cases e10 : k = 10
      · subst e10; rw [va_up_s, pk_un h]
      · rw [va_up_n e10]
        by_cases e9 : k = 9
        · subst e9; rw [va_up_s, pk_un h]
        · rw [va_up_n e9]
          by_cases e8 : k = 8
          · subst e8; rw [va_up_s, pk_un h]
          · rw [va_up_n e8]
            by_cases e7 : k = 7
            · subst e7; rw [va_up_s, pk_un h]
            · rw [va_up_n e7]
    · rw [va_up_n (by omega), va_up_n (by omega), va_up_n (by omega), va_up_n (by omega)]
  · rw [va_up_n (by decide), va_up_n (by decide), va_up_n (by decide), va_up_s, pk_us]
  · rw [va_up_n (by decide), va_up_n (by decide), va_up_s, pk_us]
  · rw [va_up_n (by decide), va_up_s, pk_us, hz, pk_vb, i8_id h0 h1]
  · rw [va_up_s, pk_us]
theorem TkT.eq {L : Int} {ta ta' : Nat → Nat → Int32} {t : Nat} (h : TkT L ta t) (e : ∀ k, ta' k t = ta k t) : TkT L ta' t := by
  unfold TkT at h ⊢
  rw [e 7, e 8, e 9, e 10]
  exact h
theorem TkP.keep {L : Int} {ta ta' : Nat → Nat → Int32} {c e : Int} {x a b s w : Int32} (h : TkP L ta c e) (u : TkU ta ta' x a b s w) (h0 : 0 ≤ x.toInt) (hx : c ≤ x.toInt) : TkP L ta' c e := by
  intro t ht
  have hc := cl_nat h0
  have e1 : ∀ k, ta' k t = ta k t := fun k => u.1 k t (Or.inl (by omega))
  obtain ⟨q1, q2, q3, q4⟩ := h t ht
  refine ⟨q1.eq e1, by rw [e1]; exact q2, by rw [e1, e1]; exact q3, fun h2 => ?_⟩
  rw [e1, e1, u.1 7 (t + 1) (Or.inl (by omega))]
  exact q4 h2
/-- what a new token must be -/
def TkN (L a b s w : Int) (m k : Prop) : Prop := (1 ≤ s ∧ s ≤ 5) ∧ (0 ≤ a ∧ 1 ≤ b ∧ a + b ≤ L) ∧ (s = 5 → 0 ≤ w ∧ w < 43 ∧ m) ∧ (s = 2 → 0 ≤ w ∧ w ≤ 14 ∧ k) ∧ (s = 4 → 0 ≤ w ∧ w ≤ 200 ∧ w + 2 ≤ b)
theorem TkP.add {L : Int} {ta ta' : Nat → Nat → Int32} {c e : Int} {x a b s w : Int32} (h : TkP L ta c e) (u : TkU ta ta' x a b s w) (h0 : 0 ≤ x.toInt) (hx : c = x.toInt) (he : e ≤ a.toInt) (hn : TkN L a.toInt b.toInt s.toInt w.toInt (b.toInt = (mlen w.toNatClampNeg : Int)) (b.toInt = (klen w.toNatClampNeg : Int))) : TkP L ta' (c + 1) (a.toInt + b.toInt) := by
  have hk := h.keep u h0 (by omega)
  have hc := cl_nat h0
  obtain ⟨n1, n2, n3, n4, n5⟩ := hn
  have g9 := u.2.2.2.1 (by omega) (by omega)
  intro t ht
  by_cases et : t = x.toNatClampNeg
  · subst et
    refine ⟨?_, by rw [g9]; exact n1.2, by rw [u.2.1, u.2.2.1]; omega, fun h2 => absurd h2 (by omega)⟩
    unfold TkT
    rw [g9, u.2.1, u.2.2.1, u.2.2.2.2]
    exact ⟨⟨n1.1, by omega⟩, ⟨n2.1, by omega, n2.2.2⟩, n3, n4, n5, fun _ => n2.2.1⟩
  · obtain ⟨q1, q2, q3, q4⟩ := hk t (by omega)
    refine ⟨q1, q2, by omega, fun h2 => ?_⟩
    by_cases e2 : t + 1 = x.toNatClampNeg
    · rw [e2, u.2.1]; omega
    · exact q4 (by omega)
/-- the last one -/
theorem TkP.last {tf : Nat → Int32} {ta ta' : Nat → Nat → Int32} {c e : Int} {x a b s w : Int32} (h : TkP (tf 5).toInt ta c e) (u : TkU ta ta' x a b s w) (h0 : 0 ≤ x.toInt) (hx : c = x.toInt) (hL : 0 ≤ (tf 5).toInt ∧ (tf 5).toInt ≤ 2048) (he : e ≤ a.toInt) (ha : 0 ≤ a.toInt ∧ a.toInt ≤ (tf 5).toInt) (hb : b.toInt = 0) (hs : 6 ≤ s.toInt ∧ s.toInt ≤ 7) (h6 : (tf 6).toInt = c + 1) (hc1 : c ≤ (tf 5).toInt) : TkI tf ta' := by
  have hk := h.keep u h0 (by omega)
  have hc := cl_nat h0
  have g9 := u.2.2.2.1 (by omega) (by omega)
  refine ⟨hL, by omega, fun t ht => ?_, fun t ht => ?_, fun t ht => ?_⟩
  · by_cases et : t = x.toNatClampNeg
    · subst et
      unfold TkT
      rw [g9, u.2.1, u.2.2.1, u.2.2.2.2]
      exact ⟨by omega, by omega, fun q => absurd q (by omega), fun q => absurd q (by omega), fun q => absurd q (by omega), fun q => absurd q (by omega)⟩
    · exact (hk t (by omega)).1
  · obtain ⟨q1, q2, q3, q4⟩ := hk t (by omega)
    refine ⟨q2, ?_⟩
    by_cases e2 : t + 1 = x.toNatClampNeg
    · rw [e2, u.2.1]; omega
    · exact q4 (by omega)
  · have et : t = x.toNatClampNeg := by omega
    rw [et, g9]
    exact hs.1
theorem tkp_0 {L : Int} {ta : Nat → Nat → Int32} {e : Int} : TkP L ta 0 e := fun t ht => absurd ht (by omega)
theorem TkP.le {L : Int} {ta : Nat → Nat → Int32} {c e e' : Int} (h : TkP L ta c e) (he : e ≤ e') : TkP L ta c e' := fun t ht => by
  obtain ⟨q1, q2, q3, q4⟩ := h t ht
  exact ⟨q1, q2, by omega, q4⟩
theorem nc_rng {v : Int32} (h : narrow .char (.int v) = .int v) : 0 ≤ v.toInt ∧ v.toInt ≤ 65535 := by
  have h1 : (v.toUInt32.toUInt16.toUInt32.toInt32) = v := Value.int.inj h
  have h2 : v.toUInt32.toUInt16.toUInt32.toNat < 65536 := by simp; omega
  rw [← h1]
  have h3 : (v.toUInt32.toUInt16.toUInt32.toInt32).toInt = (v.toUInt32.toUInt16.toUInt32.toNat : Int) := by
    have : v.toUInt32.toUInt16.toUInt32.toInt32.toInt = v.toUInt32.toUInt16.toUInt32.toBitVec.toInt := rfl
    rw [this, BitVec.toInt_eq_toNat_of_lt]
    · rfl
    · show 2 * v.toUInt32.toUInt16.toUInt32.toNat < 2 ^ 32
      omega
  rw [h3]
  omega
/-- within a comment to the line's end: behind its beginning, or there, at a / -/
def SkL (ta : Nat → Nat → Int32) (L a b : Int) : Prop := a < b ∨ (a = b ∧ btR ta L b = 47)
theorem skl_0 {ta : Nat → Nat → Int32} {L a c : Int} (h : BtV ta L a c) (e : c = 47) : SkL ta L a a := Or.inr ⟨rfl, by unfold BtV at h; omega⟩
theorem SkL.go {ta : Nat → Nat → Int32} {L a : Int} {i z : Int32} (h : SkL ta L a i.toInt) (h0 : 0 ≤ i.toInt) (h1 : i.toInt < L) (e : z = ta 4 i.toNatClampNeg) : z.toInt = 10 → a < i.toInt := by
  intro hz
  have h2 : z.toInt = btR ta L i.toInt := bt_mk h0 h1 e
  rcases h with h | ⟨h, h3⟩
  · exact h
  · omega
/-- a token was read, or not -/
def RdK (L : Int) (ta' : Nat → Nat → Int32) (x v a : Int32) : Prop := (v.toInt = 1 → TkP L ta' (x.toInt + 1) ((ta' 7 x.toNatClampNeg).toInt + (ta' 8 x.toNatClampNeg).toInt) ∧ a.toInt + 1 ≤ (ta' 7 x.toNatClampNeg).toInt + (ta' 8 x.toNatClampNeg).toInt ∧ (ta' 7 x.toNatClampNeg).toInt + (ta' 8 x.toNatClampNeg).toInt ≤ L ∧ 0 ≤ (ta' 7 x.toNatClampNeg).toInt ∧ 0 ≤ (ta' 8 x.toNatClampNeg).toInt) ∧ TkP L ta' x.toInt a.toInt
theorem rdk_y {L : Int} {ta ta' : Nat → Nat → Int32} {x a b s w v : Int32} (h : TkP L ta x.toInt a.toInt) (u : TkU ta ta' x a b s w) (h0 : 0 ≤ x.toInt) (hn : TkN L a.toInt b.toInt s.toInt w.toInt (b.toInt = (mlen w.toNatClampNeg : Int)) (b.toInt = (klen w.toNatClampNeg : Int))) : RdK L ta' x v a := by
  refine ⟨fun _ => ?_, h.keep u h0 (Int.le_refl _)⟩
  rw [u.2.1, u.2.2.1]
  have hn' := hn
  obtain ⟨n1, n2, n3, n4, n5⟩ := hn'
  exact ⟨h.add u h0 rfl (Int.le_refl _) hn, by omega, by omega, by omega, by omega⟩
theorem rdk_n {L : Int} {ta ta' : Nat → Nat → Int32} {x a b s w v : Int32} (h : TkP L ta x.toInt a.toInt) (u : TkU ta ta' x a b s w) (h0 : 0 ≤ x.toInt) (hv : v.toInt = 0) : RdK L ta' x v a := ⟨fun h1 => absurd h1 (by omega), h.keep u h0 (Int.le_refl _)⟩
theorem rdk_0 {L : Int} {ta : Nat → Nat → Int32} {x a v : Int32} (h : TkP L ta x.toInt a.toInt) (hv : v.toInt = 0) : RdK L ta x v a := ⟨fun h1 => absurd h1 (by omega), h⟩
def RdL (tf : Nat → Int32) (ta : Nat → Nat → Int32) (i g : Int32) : Prop := (g.toInt = 1 → TkP (tf 5).toInt ta (tf 6).toInt i.toInt ∧ (tf 6).toInt ≤ i.toInt) ∧ (g.toInt = 0 → TkI tf ta)
theorem rdl_1 {tf : Nat → Int32} {ta : Nat → Nat → Int32} {i g : Int32} {L c e : Int} (h : TkP L ta c e) (hL : (tf 5).toInt = L) (hc : c = (tf 6).toInt) (he : e ≤ i.toInt) (hl : (tf 6).toInt ≤ i.toInt) (hg : g.toInt ≠ 0) : RdL tf ta i g := ⟨fun _ => ⟨by rw [← hc, hL]; exact h.le he, hl⟩, fun h => absurd h hg⟩
theorem rdl_0 {tf : Nat → Int32} {ta : Nat → Nat → Int32} {i g : Int32} (h : TkI tf ta) (hg : g.toInt ≠ 1) : RdL tf ta i g := ⟨fun h => absurd h hg, fun _ => h⟩
theorem dg_pos {ta : Nat → Nat → Int32} {L i j d w u : Int} (h : dgI (btR ta L i) = 1) (h3 : BtV ta L j d) (h4 : DgV d w) (hw : w = 0) (e : j = i + u) : u ≠ 0 := dg_first (v := 1) (u := u) (rfl : BtV ta L i (btR ta L i)) h.symm rfl h3 h4 hw e
theorem lt_pos {ta : Nat → Nat → Int32} {L i j d w u : Int} (h : ltI (btR ta L i) = 1) (h3 : BtV ta L j d) (h4 : LtV d w) (hw : w = 0) (e : j = i + u) : u ≠ 0 := lt_first (v := 1) (u := u) (rfl : BtV ta L i (btR ta L i)) h.symm rfl h3 h4 hw e
theorem dg_is {ta : Nat → Nat → Int32} {L i c v : Int} (h1 : BtV ta L i c) (h2 : DgV c v) (hv : v = 1) : dgI (btR ta L i) = 1 := by
  unfold BtV at h1
  unfold DgV at h2
  rw [← h1, ← h2, hv]
def LtA (ta : Nat → Nat → Int32) (L i : Int) : Prop := ltI (btR ta L i) = 1
theorem lt_is {ta : Nat → Nat → Int32} {L i c v : Int} (h1 : BtV ta L i c) (h2 : LtV c v) (hv : v = 1) : ltI (btR ta L i) = 1 := by
  unfold BtV at h1
  unfold LtV at h2
  rw [← h1, ← h2, hv]
theorem tki_end {tf tf' : Nat → Int32} {ta ta' : Nat → Nat → Int32} {i g a b s w : Int32} (h : RdL tf ta i g) (hg : g.toInt = 1) (u : TkU ta ta' (tf 6) a b s w) (e5 : (tf' 5).toInt = (tf 5).toInt) (e6 : (tf' 6).toInt = (tf 6).toInt + 1) (h0 : 0 ≤ (tf 6).toInt) (hL : 0 ≤ (tf 5).toInt ∧ (tf 5).toInt ≤ 2048) (he : i.toInt ≤ a.toInt) (ha : 0 ≤ a.toInt ∧ a.toInt ≤ (tf 5).toInt) (hb : b.toInt = 0) (hs : 6 ≤ s.toInt ∧ s.toInt ≤ 7) (hi : i.toInt ≤ (tf 5).toInt) : TkI tf' ta' := by
  obtain ⟨h1, h2⟩ := h.1 hg
  exact TkP.last (tf := tf') (c := (tf 6).toInt) (e := i.toInt) (by rw [e5]; exact h1) u h0 rfl (by omega) he (by omega) hb hs e6 (by omega)
theorem rdl_bad {tf' : Nat → Int32} {ta ta' : Nat → Nat → Int32} {L : Int} {c v i b s w g j : Int32} (k : RdK L ta c v i) (u : TkU ta ta' c i b s w) (e5 : (tf' 5).toInt = L) (e6 : (tf' 6).toInt = c.toInt + 1) (h0 : 0 ≤ c.toInt) (hc : c.toInt ≤ L) (hL : 0 ≤ L ∧ L ≤ 2048) (ha : 0 ≤ i.toInt ∧ i.toInt ≤ L) (hb : b.toInt = 0) (hs : 6 ≤ s.toInt ∧ s.toInt ≤ 7) (hg : g.toInt ≠ 1) : RdL tf' ta' j g :=
  rdl_0 (TkP.last (tf := tf') (c := c.toInt) (e := i.toInt) (by rw [e5]; exact k.2) u h0 rfl (by omega) (Int.le_refl _) (by omega) hb hs e6 (by omega)) hg
abbrev b_Mpg_isDigit : ByteArray := prog_16_method_3_code
def y_Mpg_isDigit : MethodName := ⟨"HomeSystemModel$Program", "isDigit", "(I)Z"⟩
theorem d_Mpg_isDigit_0 : decode b_Mpg_isDigit 0 = .ok (.iload_n 0, 1) := by decide +kernel
theorem d_Mpg_isDigit_1 : decode b_Mpg_isDigit 1 = .ok (.bipush 48, 2) := by decide +kernel
theorem d_Mpg_isDigit_3 : decode b_Mpg_isDigit 3 = .ok (.if_icmp .lt 13, 3) := by decide +kernel
theorem d_Mpg_isDigit_6 : decode b_Mpg_isDigit 6 = .ok (.iload_n 0, 1) := by decide +kernel
theorem d_Mpg_isDigit_7 : decode b_Mpg_isDigit 7 = .ok (.bipush 57, 2) := by decide +kernel
theorem d_Mpg_isDigit_9 : decode b_Mpg_isDigit 9 = .ok (.if_icmp .gt 7, 3) := by decide +kernel
theorem d_Mpg_isDigit_12 : decode b_Mpg_isDigit 12 = .ok (.iconst 1, 1) := by decide +kernel
theorem d_Mpg_isDigit_13 : decode b_Mpg_isDigit 13 = .ok (.goto 4, 3) := by decide +kernel
theorem d_Mpg_isDigit_16 : decode b_Mpg_isDigit 16 = .ok (.iconst 0, 1) := by decide +kernel
theorem d_Mpg_isDigit_17 : decode b_Mpg_isDigit 17 = .ok (.ireturn, 1) := by decide +kernel
theorem q_Mpg_isDigit : px_y y_Mpg_isDigit 1 := by unfold px_y; decide +kernel
set_option maxHeartbeats 4000000 in
set_option maxRecDepth 100000 in
theorem c_mp_isDigit (l : Launch) (D : va_G) (cs : Nat → ClassId)  (p0 : Int32)   : MetI l y_Mpg_isDigit b_Mpg_isDigit 1 (.boolean) D cs 0 0 (0) (0) [.int p0] [] (fun _ => True) (fun v ps => (ps = []) ∧ (v = 0 ∨ v = 1) ∧ (v.toInt = 1 → 48 ≤ p0.toInt ∧ p0.toInt ≤ 57) ∧ (DgV p0.toInt v.toInt) ∧ (R_mp_isDigit p0 v)) := by
  refine px_enter (by decide) (Nat.le_of_ble_eq_true rfl) ?_
  intro p e s m below meth c A ls hAe S hr hlk hnm hA hT hX hw hl
  have hl : lv_has ls 1 [(0, .int p0)] := hl
  have lp0 := Int32.le_toInt p0
  have up0 := Int32.toInt_lt p0
  have cst0 : (0 : Int32).toInt = 0 := rfl
  have cst1 : (1 : Int32).toInt = 1 := rfl
  have cst48 : (48 : Int32).toInt = 48 := rfl
  have cst57 : (57 : Int32).toInt = 57 := rfl
  refine lv_iload_n S.x S.b d_Mpg_isDigit_0 rfl (lv_at hl 0 rfl) ?_
  refine lv_bipush (v := 48) S.x S.b d_Mpg_isDigit_1 (by decide) ?_
  refine lv_icmp_lt (tgt := 16) S.x S.b d_Mpg_isDigit_3 (by decide) (fun c1 => ?_) (fun c1 => ?_)
  · have nc1 : p0.toInt < (48 : Int) := (i_lt (x := p0) (y := 48)).mp c1
    refine lv_iconst (v := 0) S.x S.b d_Mpg_isDigit_16 (by decide) ?_
    exact px_iret (v := 0) S hr rfl hlk hAe hw (Nat.le_of_ble_eq_true rfl) (Nat.le_of_ble_eq_true rfl) (⟨rfl, (show (0 : Int32) = 0 ∨ (0 : Int32) = 1 from by first | exact Or.inl rfl | exact Or.inr rfl | exact z_or (by omega)), (show (0 : Int) = 1 → 48 ≤ p0.toInt ∧ p0.toInt ≤ 57 from by omega), (show DgV p0.toInt (0 : Int) from (by unfold DgV dgI; split <;> first | rfl | (exfalso; omega))), (show R_mp_isDigit p0 (0 : Int32) from (Or.inl (Or.inl ⟨nc1, rfl⟩)))⟩) d_Mpg_isDigit_17
  · have nc1 : ¬ p0.toInt < (48 : Int) := mt (i_lt (x := p0) (y := 48)).mpr c1
    refine lv_iload_n S.x S.b d_Mpg_isDigit_6 rfl (lv_at hl 0 rfl) ?_
    refine lv_bipush (v := 57) S.x S.b d_Mpg_isDigit_7 (by decide) ?_
    refine lv_icmp_gt (tgt := 16) S.x S.b d_Mpg_isDigit_9 (by decide) (fun c3 => ?_) (fun c3 => ?_)
    · have nc3 : (57 : Int) < p0.toInt := (i_lt (x := 57) (y := p0)).mp c3
      refine lv_iconst (v := 0) S.x S.b d_Mpg_isDigit_16 (by decide) ?_
      exact px_iret (v := 0) S hr rfl hlk hAe hw (Nat.le_of_ble_eq_true rfl) (Nat.le_of_ble_eq_true rfl) (⟨rfl, (show (0 : Int32) = 0 ∨ (0 : Int32) = 1 from by first | exact Or.inl rfl | exact Or.inr rfl | exact z_or (by omega)), (show (0 : Int) = 1 → 48 ≤ p0.toInt ∧ p0.toInt ≤ 57 from by omega), (show DgV p0.toInt (0 : Int) from (by unfold DgV dgI; split <;> first | rfl | (exfalso; omega))), (show R_mp_isDigit p0 (0 : Int32) from (Or.inl (Or.inr ⟨nc1, Or.inl ⟨nc3, rfl⟩⟩)))⟩) d_Mpg_isDigit_17
    · have nc3 : ¬ (57 : Int) < p0.toInt := mt (i_lt (x := 57) (y := p0)).mpr c3
      refine lv_iconst (v := 1) S.x S.b d_Mpg_isDigit_12 (by decide) ?_
      refine lv_goto (tgt := 17) S.x S.b d_Mpg_isDigit_13 (by decide) ?_
      exact px_iret (v := 1) S hr rfl hlk hAe hw (Nat.le_of_ble_eq_true rfl) (Nat.le_of_ble_eq_true rfl) (⟨rfl, (show (1 : Int32) = 0 ∨ (1 : Int32) = 1 from by first | exact Or.inl rfl | exact Or.inr rfl | exact z_or (by omega)), (show (1 : Int) = 1 → 48 ≤ p0.toInt ∧ p0.toInt ≤ 57 from by omega), (show DgV p0.toInt (1 : Int) from (by unfold DgV dgI; split <;> first | rfl | (exfalso; omega))), (show R_mp_isDigit p0 (1 : Int32) from (Or.inl (Or.inr ⟨nc1, Or.inr ⟨nc3, rfl⟩⟩)))⟩) d_Mpg_isDigit_17
abbrev b_Mpg_isLetter : ByteArray := prog_16_method_4_code
def y_Mpg_isLetter : MethodName := ⟨"HomeSystemModel$Program", "isLetter", "(I)Z"⟩
theorem d_Mpg_isLetter_0 : decode b_Mpg_isLetter 0 = .ok (.iload_n 0, 1) := by decide +kernel
theorem d_Mpg_isLetter_1 : decode b_Mpg_isLetter 1 = .ok (.bipush 97, 2) := by decide +kernel
theorem d_Mpg_isLetter_3 : decode b_Mpg_isLetter 3 = .ok (.if_icmp .lt 9, 3) := by decide +kernel
theorem d_Mpg_isLetter_6 : decode b_Mpg_isLetter 6 = .ok (.iload_n 0, 1) := by decide +kernel
theorem d_Mpg_isLetter_7 : decode b_Mpg_isLetter 7 = .ok (.bipush 122, 2) := by decide +kernel
theorem d_Mpg_isLetter_9 : decode b_Mpg_isLetter 9 = .ok (.if_icmp .le 21, 3) := by decide +kernel
theorem d_Mpg_isLetter_12 : decode b_Mpg_isLetter 12 = .ok (.iload_n 0, 1) := by decide +kernel
theorem d_Mpg_isLetter_13 : decode b_Mpg_isLetter 13 = .ok (.bipush 65, 2) := by decide +kernel
theorem d_Mpg_isLetter_15 : decode b_Mpg_isLetter 15 = .ok (.if_icmp .lt 9, 3) := by decide +kernel
theorem d_Mpg_isLetter_18 : decode b_Mpg_isLetter 18 = .ok (.iload_n 0, 1) := by decide +kernel
theorem d_Mpg_isLetter_19 : decode b_Mpg_isLetter 19 = .ok (.bipush 90, 2) := by decide +kernel
theorem d_Mpg_isLetter_21 : decode b_Mpg_isLetter 21 = .ok (.if_icmp .le 9, 3) := by decide +kernel
theorem d_Mpg_isLetter_24 : decode b_Mpg_isLetter 24 = .ok (.iload_n 0, 1) := by decide +kernel
theorem d_Mpg_isLetter_25 : decode b_Mpg_isLetter 25 = .ok (.bipush 95, 2) := by decide +kernel
theorem d_Mpg_isLetter_27 : decode b_Mpg_isLetter 27 = .ok (.if_icmp .ne 7, 3) := by decide +kernel
theorem d_Mpg_isLetter_30 : decode b_Mpg_isLetter 30 = .ok (.iconst 1, 1) := by decide +kernel
theorem d_Mpg_isLetter_31 : decode b_Mpg_isLetter 31 = .ok (.goto 4, 3) := by decide +kernel
theorem d_Mpg_isLetter_34 : decode b_Mpg_isLetter 34 = .ok (.iconst 0, 1) := by decide +kernel
theorem d_Mpg_isLetter_35 : decode b_Mpg_isLetter 35 = .ok (.ireturn, 1) := by decide +kernel
theorem q_Mpg_isLetter : px_y y_Mpg_isLetter 1 := by unfold px_y; decide +kernel
set_option maxHeartbeats 4000000 in
set_option maxRecDepth 100000 in
theorem c_mp_isLetter (l : Launch) (D : va_G) (cs : Nat → ClassId)  (p0 : Int32)   : MetI l y_Mpg_isLetter b_Mpg_isLetter 1 (.boolean) D cs 0 0 (0) (0) [.int p0] [] (fun _ => True) (fun v ps => (ps = []) ∧ (v = 0 ∨ v = 1) ∧ (v.toInt = 1 → 65 ≤ p0.toInt) ∧ (LtV p0.toInt v.toInt) ∧ (R_mp_isLetter p0 v)) := by
  refine px_enter (by decide) (Nat.le_of_ble_eq_true rfl) ?_
  intro p e s m below meth c A ls hAe S hr hlk hnm hA hT hX hw hl
  have hl : lv_has ls 1 [(0, .int p0)] := hl
  have lp0 := Int32.le_toInt p0
  have up0 := Int32.toInt_lt p0
  have cst0 : (0 : Int32).toInt = 0 := rfl
  have cst1 : (1 : Int32).toInt = 1 := rfl
  have cst65 : (65 : Int32).toInt = 65 := rfl
  have cst90 : (90 : Int32).toInt = 90 := rfl
  have cst95 : (95 : Int32).toInt = 95 := rfl
  have cst97 : (97 : Int32).toInt = 97 := rfl
  have cst122 : (122 : Int32).toInt = 122 := rfl
  refine lv_iload_n S.x S.b d_Mpg_isLetter_0 rfl (lv_at hl 0 rfl) ?_
  refine lv_bipush (v := 97) S.x S.b d_Mpg_isLetter_1 (by decide) ?_
  refine lv_icmp_lt (tgt := 12) S.x S.b d_Mpg_isLetter_3 (by decide) (fun c1 => ?_) (fun c1 => ?_)
  · have nc1 : p0.toInt < (97 : Int) := (i_lt (x := p0) (y := 97)).mp c1
    refine lv_iload_n S.x S.b d_Mpg_isLetter_12 rfl (lv_at hl 0 rfl) ?_
    refine lv_bipush (v := 65) S.x S.b d_Mpg_isLetter_13 (by decide) ?_
    refine lv_icmp_lt (tgt := 24) S.x S.b d_Mpg_isLetter_15 (by decide) (fun c3 => ?_) (fun c3 => ?_)
    · have nc3 : p0.toInt < (65 : Int) := (i_lt (x := p0) (y := 65)).mp c3
      refine lv_iload_n S.x S.b d_Mpg_isLetter_24 rfl (lv_at hl 0 rfl) ?_
      refine lv_bipush (v := 95) S.x S.b d_Mpg_isLetter_25 (by decide) ?_
      refine lv_icmp_ne (tgt := 34) S.x S.b d_Mpg_isLetter_27 (by decide) (fun c5 => ?_) (fun c5 => ?_)
      · have nc5 : ¬ p0.toInt = (95 : Int) := mt (i_eq (x := p0) (y := 95)).mpr c5
        refine lv_iconst (v := 0) S.x S.b d_Mpg_isLetter_34 (by decide) ?_
        exact px_iret (v := 0) S hr rfl hlk hAe hw (Nat.le_of_ble_eq_true rfl) (Nat.le_of_ble_eq_true rfl) (⟨rfl, (show (0 : Int32) = 0 ∨ (0 : Int32) = 1 from by first | exact Or.inl rfl | exact Or.inr rfl | exact z_or (by omega)), (show (0 : Int) = 1 → 65 ≤ p0.toInt from by omega), (show LtV p0.toInt (0 : Int) from (by unfold LtV ltI; split <;> first | rfl | (exfalso; omega))), (show R_mp_isLetter p0 (0 : Int32) from (Or.inl (Or.inl ⟨nc1, Or.inl ⟨nc3, Or.inl ⟨nc5, rfl⟩⟩⟩)))⟩) d_Mpg_isLetter_35
      · have nc5 : p0.toInt = (95 : Int) := (i_eq (x := p0) (y := 95)).mp c5
        refine lv_iconst (v := 1) S.x S.b d_Mpg_isLetter_30 (by decide) ?_
        refine lv_goto (tgt := 35) S.x S.b d_Mpg_isLetter_31 (by decide) ?_
        exact px_iret (v := 1) S hr rfl hlk hAe hw (Nat.le_of_ble_eq_true rfl) (Nat.le_of_ble_eq_true rfl) (⟨rfl, (show (1 : Int32) = 0 ∨ (1 : Int32) = 1 from by first | exact Or.inl rfl | exact Or.inr rfl | exact z_or (by omega)), (show (1 : Int) = 1 → 65 ≤ p0.toInt from by omega), (show LtV p0.toInt (1 : Int) from (by unfold LtV ltI; split <;> first | rfl | (exfalso; omega))), (show R_mp_isLetter p0 (1 : Int32) from (Or.inl (Or.inl ⟨nc1, Or.inl ⟨nc3, Or.inr ⟨nc5, rfl⟩⟩⟩)))⟩) d_Mpg_isLetter_35
    · have nc3 : ¬ p0.toInt < (65 : Int) := mt (i_lt (x := p0) (y := 65)).mpr c3
      refine lv_iload_n S.x S.b d_Mpg_isLetter_18 rfl (lv_at hl 0 rfl) ?_
      refine lv_bipush (v := 90) S.x S.b d_Mpg_isLetter_19 (by decide) ?_
      refine lv_icmp_le (tgt := 30) S.x S.b d_Mpg_isLetter_21 (by decide) (fun c7 => ?_) (fun c7 => ?_)
      · have nc7 : p0.toInt ≤ (90 : Int) := (i_le (x := p0) (y := 90)).mp c7
        refine lv_iconst (v := 1) S.x S.b d_Mpg_isLetter_30 (by decide) ?_
        refine lv_goto (tgt := 35) S.x S.b d_Mpg_isLetter_31 (by decide) ?_
        exact px_iret (v := 1) S hr rfl hlk hAe hw (Nat.le_of_ble_eq_true rfl) (Nat.le_of_ble_eq_true rfl) (⟨rfl, (show (1 : Int32) = 0 ∨ (1 : Int32) = 1 from by first | exact Or.inl rfl | exact Or.inr rfl | exact z_or (by omega)), (show (1 : Int) = 1 → 65 ≤ p0.toInt from by omega), (show LtV p0.toInt (1 : Int) from (by unfold LtV ltI; split <;> first | rfl | (exfalso; omega))), (show R_mp_isLetter p0 (1 : Int32) from (Or.inl (Or.inl ⟨nc1, Or.inr ⟨nc3, Or.inl ⟨nc7, rfl⟩⟩⟩)))⟩) d_Mpg_isLetter_35
      · have nc7 : ¬ p0.toInt ≤ (90 : Int) := mt (i_le (x := p0) (y := 90)).mpr c7
        refine lv_iload_n S.x S.b d_Mpg_isLetter_24 rfl (lv_at hl 0 rfl) ?_
        refine lv_bipush (v := 95) S.x S.b d_Mpg_isLetter_25 (by decide) ?_
        refine lv_icmp_ne (tgt := 34) S.x S.b d_Mpg_isLetter_27 (by decide) (fun c9 => ?_) (fun c9 => ?_)
        · have nc9 : ¬ p0.toInt = (95 : Int) := mt (i_eq (x := p0) (y := 95)).mpr c9
          refine lv_iconst (v := 0) S.x S.b d_Mpg_isLetter_34 (by decide) ?_
          exact px_iret (v := 0) S hr rfl hlk hAe hw (Nat.le_of_ble_eq_true rfl) (Nat.le_of_ble_eq_true rfl) (⟨rfl, (show (0 : Int32) = 0 ∨ (0 : Int32) = 1 from by first | exact Or.inl rfl | exact Or.inr rfl | exact z_or (by omega)), (show (0 : Int) = 1 → 65 ≤ p0.toInt from by omega), (show LtV p0.toInt (0 : Int) from (by unfold LtV ltI; split <;> first | rfl | (exfalso; omega))), (show R_mp_isLetter p0 (0 : Int32) from (Or.inl (Or.inl ⟨nc1, Or.inr ⟨nc3, Or.inr ⟨nc7, Or.inl ⟨nc9, rfl⟩⟩⟩⟩)))⟩) d_Mpg_isLetter_35
        · have nc9 : p0.toInt = (95 : Int) := (i_eq (x := p0) (y := 95)).mp c9
          refine lv_iconst (v := 1) S.x S.b d_Mpg_isLetter_30 (by decide) ?_
          refine lv_goto (tgt := 35) S.x S.b d_Mpg_isLetter_31 (by decide) ?_
          exact px_iret (v := 1) S hr rfl hlk hAe hw (Nat.le_of_ble_eq_true rfl) (Nat.le_of_ble_eq_true rfl) (⟨rfl, (show (1 : Int32) = 0 ∨ (1 : Int32) = 1 from by first | exact Or.inl rfl | exact Or.inr rfl | exact z_or (by omega)), (show (1 : Int) = 1 → 65 ≤ p0.toInt from by omega), (show LtV p0.toInt (1 : Int) from (by unfold LtV ltI; split <;> first | rfl | (exfalso; omega))), (show R_mp_isLetter p0 (1 : Int32) from (Or.inl (Or.inl ⟨nc1, Or.inr ⟨nc3, Or.inr ⟨nc7, Or.inr ⟨nc9, rfl⟩⟩⟩⟩)))⟩) d_Mpg_isLetter_35
  · have nc1 : ¬ p0.toInt < (97 : Int) := mt (i_lt (x := p0) (y := 97)).mpr c1
    refine lv_iload_n S.x S.b d_Mpg_isLetter_6 rfl (lv_at hl 0 rfl) ?_
    refine lv_bipush (v := 122) S.x S.b d_Mpg_isLetter_7 (by decide) ?_
    refine lv_icmp_le (tgt := 30) S.x S.b d_Mpg_isLetter_9 (by decide) (fun c11 => ?_) (fun c11 => ?_)
    · have nc11 : p0.toInt ≤ (122 : Int) := (i_le (x := p0) (y := 122)).mp c11
      refine lv_iconst (v := 1) S.x S.b d_Mpg_isLetter_30 (by decide) ?_
      refine lv_goto (tgt := 35) S.x S.b d_Mpg_isLetter_31 (by decide) ?_
      exact px_iret (v := 1) S hr rfl hlk hAe hw (Nat.le_of_ble_eq_true rfl) (Nat.le_of_ble_eq_true rfl) (⟨rfl, (show (1 : Int32) = 0 ∨ (1 : Int32) = 1 from by first | exact Or.inl rfl | exact Or.inr rfl | exact z_or (by omega)), (show (1 : Int) = 1 → 65 ≤ p0.toInt from by omega), (show LtV p0.toInt (1 : Int) from (by unfold LtV ltI; split <;> first | rfl | (exfalso; omega))), (show R_mp_isLetter p0 (1 : Int32) from (Or.inl (Or.inr ⟨nc1, Or.inl ⟨nc11, rfl⟩⟩)))⟩) d_Mpg_isLetter_35
    · have nc11 : ¬ p0.toInt ≤ (122 : Int) := mt (i_le (x := p0) (y := 122)).mpr c11
      refine lv_iload_n S.x S.b d_Mpg_isLetter_12 rfl (lv_at hl 0 rfl) ?_
      refine lv_bipush (v := 65) S.x S.b d_Mpg_isLetter_13 (by decide) ?_
      refine lv_icmp_lt (tgt := 24) S.x S.b d_Mpg_isLetter_15 (by decide) (fun c13 => ?_) (fun c13 => ?_)
      · have nc13 : p0.toInt < (65 : Int) := (i_lt (x := p0) (y := 65)).mp c13
        refine lv_iload_n S.x S.b d_Mpg_isLetter_24 rfl (lv_at hl 0 rfl) ?_
        refine lv_bipush (v := 95) S.x S.b d_Mpg_isLetter_25 (by decide) ?_
        refine lv_icmp_ne (tgt := 34) S.x S.b d_Mpg_isLetter_27 (by decide) (fun c15 => ?_) (fun c15 => ?_)
        · have nc15 : ¬ p0.toInt = (95 : Int) := mt (i_eq (x := p0) (y := 95)).mpr c15
          refine lv_iconst (v := 0) S.x S.b d_Mpg_isLetter_34 (by decide) ?_
          exact px_iret (v := 0) S hr rfl hlk hAe hw (Nat.le_of_ble_eq_true rfl) (Nat.le_of_ble_eq_true rfl) (⟨rfl, (show (0 : Int32) = 0 ∨ (0 : Int32) = 1 from by first | exact Or.inl rfl | exact Or.inr rfl | exact z_or (by omega)), (show (0 : Int) = 1 → 65 ≤ p0.toInt from by omega), (show LtV p0.toInt (0 : Int) from (by unfold LtV ltI; split <;> first | rfl | (exfalso; omega))), (show R_mp_isLetter p0 (0 : Int32) from (Or.inl (Or.inr ⟨nc1, Or.inr ⟨nc11, Or.inl ⟨nc13, Or.inl ⟨nc15, rfl⟩⟩⟩⟩)))⟩) d_Mpg_isLetter_35
        · have nc15 : p0.toInt = (95 : Int) := (i_eq (x := p0) (y := 95)).mp c15
          refine lv_iconst (v := 1) S.x S.b d_Mpg_isLetter_30 (by decide) ?_
          refine lv_goto (tgt := 35) S.x S.b d_Mpg_isLetter_31 (by decide) ?_
          exact px_iret (v := 1) S hr rfl hlk hAe hw (Nat.le_of_ble_eq_true rfl) (Nat.le_of_ble_eq_true rfl) (⟨rfl, (show (1 : Int32) = 0 ∨ (1 : Int32) = 1 from by first | exact Or.inl rfl | exact Or.inr rfl | exact z_or (by omega)), (show (1 : Int) = 1 → 65 ≤ p0.toInt from by omega), (show LtV p0.toInt (1 : Int) from (by unfold LtV ltI; split <;> first | rfl | (exfalso; omega))), (show R_mp_isLetter p0 (1 : Int32) from (Or.inl (Or.inr ⟨nc1, Or.inr ⟨nc11, Or.inl ⟨nc13, Or.inr ⟨nc15, rfl⟩⟩⟩⟩)))⟩) d_Mpg_isLetter_35
      · have nc13 : ¬ p0.toInt < (65 : Int) := mt (i_lt (x := p0) (y := 65)).mpr c13
        refine lv_iload_n S.x S.b d_Mpg_isLetter_18 rfl (lv_at hl 0 rfl) ?_
        refine lv_bipush (v := 90) S.x S.b d_Mpg_isLetter_19 (by decide) ?_
        refine lv_icmp_le (tgt := 30) S.x S.b d_Mpg_isLetter_21 (by decide) (fun c17 => ?_) (fun c17 => ?_)
        · have nc17 : p0.toInt ≤ (90 : Int) := (i_le (x := p0) (y := 90)).mp c17
          refine lv_iconst (v := 1) S.x S.b d_Mpg_isLetter_30 (by decide) ?_
          refine lv_goto (tgt := 35) S.x S.b d_Mpg_isLetter_31 (by decide) ?_
          exact px_iret (v := 1) S hr rfl hlk hAe hw (Nat.le_of_ble_eq_true rfl) (Nat.le_of_ble_eq_true rfl) (⟨rfl, (show (1 : Int32) = 0 ∨ (1 : Int32) = 1 from by first | exact Or.inl rfl | exact Or.inr rfl | exact z_or (by omega)), (show (1 : Int) = 1 → 65 ≤ p0.toInt from by omega), (show LtV p0.toInt (1 : Int) from (by unfold LtV ltI; split <;> first | rfl | (exfalso; omega))), (show R_mp_isLetter p0 (1 : Int32) from (Or.inl (Or.inr ⟨nc1, Or.inr ⟨nc11, Or.inr ⟨nc13, Or.inl ⟨nc17, rfl⟩⟩⟩⟩)))⟩) d_Mpg_isLetter_35
        · have nc17 : ¬ p0.toInt ≤ (90 : Int) := mt (i_le (x := p0) (y := 90)).mpr c17
          refine lv_iload_n S.x S.b d_Mpg_isLetter_24 rfl (lv_at hl 0 rfl) ?_
          refine lv_bipush (v := 95) S.x S.b d_Mpg_isLetter_25 (by decide) ?_
          refine lv_icmp_ne (tgt := 34) S.x S.b d_Mpg_isLetter_27 (by decide) (fun c19 => ?_) (fun c19 => ?_)
          · have nc19 : ¬ p0.toInt = (95 : Int) := mt (i_eq (x := p0) (y := 95)).mpr c19
            refine lv_iconst (v := 0) S.x S.b d_Mpg_isLetter_34 (by decide) ?_
            exact px_iret (v := 0) S hr rfl hlk hAe hw (Nat.le_of_ble_eq_true rfl) (Nat.le_of_ble_eq_true rfl) (⟨rfl, (show (0 : Int32) = 0 ∨ (0 : Int32) = 1 from by first | exact Or.inl rfl | exact Or.inr rfl | exact z_or (by omega)), (show (0 : Int) = 1 → 65 ≤ p0.toInt from by omega), (show LtV p0.toInt (0 : Int) from (by unfold LtV ltI; split <;> first | rfl | (exfalso; omega))), (show R_mp_isLetter p0 (0 : Int32) from (Or.inl (Or.inr ⟨nc1, Or.inr ⟨nc11, Or.inr ⟨nc13, Or.inr ⟨nc17, Or.inl ⟨nc19, rfl⟩⟩⟩⟩⟩)))⟩) d_Mpg_isLetter_35
          · have nc19 : p0.toInt = (95 : Int) := (i_eq (x := p0) (y := 95)).mp c19
            refine lv_iconst (v := 1) S.x S.b d_Mpg_isLetter_30 (by decide) ?_
            refine lv_goto (tgt := 35) S.x S.b d_Mpg_isLetter_31 (by decide) ?_
            exact px_iret (v := 1) S hr rfl hlk hAe hw (Nat.le_of_ble_eq_true rfl) (Nat.le_of_ble_eq_true rfl) (⟨rfl, (show (1 : Int32) = 0 ∨ (1 : Int32) = 1 from by first | exact Or.inl rfl | exact Or.inr rfl | exact z_or (by omega)), (show (1 : Int) = 1 → 65 ≤ p0.toInt from by omega), (show LtV p0.toInt (1 : Int) from (by unfold LtV ltI; split <;> first | rfl | (exfalso; omega))), (show R_mp_isLetter p0 (1 : Int32) from (Or.inl (Or.inr ⟨nc1, Or.inr ⟨nc11, Or.inr ⟨nc13, Or.inr ⟨nc17, Or.inr ⟨nc19, rfl⟩⟩⟩⟩⟩)))⟩) d_Mpg_isLetter_35
abbrev b_Mpg_figure : ByteArray := prog_16_method_5_code
def y_Mpg_figure : MethodName := ⟨"HomeSystemModel$Program", "figure", "(I)I"⟩
theorem d_Mpg_figure_0 : decode b_Mpg_figure 0 = .ok (.iload_n 0, 1) := by decide +kernel
theorem d_Mpg_figure_1 : decode b_Mpg_figure 1 = .ok (.invokestatic 296, 3) := by decide +kernel
theorem d_Mpg_figure_4 : decode b_Mpg_figure 4 = .ok (.ifCond .eq 10, 3) := by decide +kernel
theorem d_Mpg_figure_7 : decode b_Mpg_figure 7 = .ok (.iload_n 0, 1) := by decide +kernel
theorem d_Mpg_figure_8 : decode b_Mpg_figure 8 = .ok (.bipush 48, 2) := by decide +kernel
theorem d_Mpg_figure_10 : decode b_Mpg_figure 10 = .ok (.isub, 1) := by decide +kernel
theorem d_Mpg_figure_11 : decode b_Mpg_figure 11 = .ok (.goto 48, 3) := by decide +kernel
theorem d_Mpg_figure_14 : decode b_Mpg_figure 14 = .ok (.iload_n 0, 1) := by decide +kernel
theorem d_Mpg_figure_15 : decode b_Mpg_figure 15 = .ok (.bipush 97, 2) := by decide +kernel
theorem d_Mpg_figure_17 : decode b_Mpg_figure 17 = .ok (.if_icmp .lt 19, 3) := by decide +kernel
theorem d_Mpg_figure_20 : decode b_Mpg_figure 20 = .ok (.iload_n 0, 1) := by decide +kernel
theorem d_Mpg_figure_21 : decode b_Mpg_figure 21 = .ok (.bipush 102, 2) := by decide +kernel
theorem d_Mpg_figure_23 : decode b_Mpg_figure 23 = .ok (.if_icmp .gt 13, 3) := by decide +kernel
theorem d_Mpg_figure_26 : decode b_Mpg_figure 26 = .ok (.iload_n 0, 1) := by decide +kernel
theorem d_Mpg_figure_27 : decode b_Mpg_figure 27 = .ok (.bipush 97, 2) := by decide +kernel
theorem d_Mpg_figure_29 : decode b_Mpg_figure 29 = .ok (.isub, 1) := by decide +kernel
theorem d_Mpg_figure_30 : decode b_Mpg_figure 30 = .ok (.bipush 10, 2) := by decide +kernel
theorem d_Mpg_figure_32 : decode b_Mpg_figure 32 = .ok (.iadd, 1) := by decide +kernel
theorem d_Mpg_figure_33 : decode b_Mpg_figure 33 = .ok (.goto 26, 3) := by decide +kernel
theorem d_Mpg_figure_36 : decode b_Mpg_figure 36 = .ok (.iload_n 0, 1) := by decide +kernel
theorem d_Mpg_figure_37 : decode b_Mpg_figure 37 = .ok (.bipush 65, 2) := by decide +kernel
theorem d_Mpg_figure_39 : decode b_Mpg_figure 39 = .ok (.if_icmp .lt 19, 3) := by decide +kernel
theorem d_Mpg_figure_42 : decode b_Mpg_figure 42 = .ok (.iload_n 0, 1) := by decide +kernel
theorem d_Mpg_figure_43 : decode b_Mpg_figure 43 = .ok (.bipush 70, 2) := by decide +kernel
theorem d_Mpg_figure_45 : decode b_Mpg_figure 45 = .ok (.if_icmp .gt 13, 3) := by decide +kernel
theorem d_Mpg_figure_48 : decode b_Mpg_figure 48 = .ok (.iload_n 0, 1) := by decide +kernel
theorem d_Mpg_figure_49 : decode b_Mpg_figure 49 = .ok (.bipush 65, 2) := by decide +kernel
theorem d_Mpg_figure_51 : decode b_Mpg_figure 51 = .ok (.isub, 1) := by decide +kernel
theorem d_Mpg_figure_52 : decode b_Mpg_figure 52 = .ok (.bipush 10, 2) := by decide +kernel
theorem d_Mpg_figure_54 : decode b_Mpg_figure 54 = .ok (.iadd, 1) := by decide +kernel
theorem d_Mpg_figure_55 : decode b_Mpg_figure 55 = .ok (.goto 4, 3) := by decide +kernel
theorem d_Mpg_figure_58 : decode b_Mpg_figure 58 = .ok (.iconst (-1), 1) := by decide +kernel
theorem d_Mpg_figure_59 : decode b_Mpg_figure 59 = .ok (.ireturn, 1) := by decide +kernel
theorem q_Mpg_figure : px_y y_Mpg_figure 1 := by unfold px_y; decide +kernel
set_option maxHeartbeats 4000000 in
set_option maxRecDepth 100000 in
theorem c_mp_figure (l : Launch) (D : va_G) (cs : Nat → ClassId)  (p0 : Int32)   : MetI l y_Mpg_figure b_Mpg_figure 1 (.int) D cs 1 30 (0) (0) [.int p0] [] (fun _ => True) (fun v ps => (ps = []) ∧ (-1 ≤ v.toInt) ∧ (v.toInt ≤ 15) ∧ (0 ≤ v.toInt → 48 ≤ p0.toInt) ∧ (R_mp_figure p0 v)) := by
  refine px_enter (by decide) (Nat.le_of_ble_eq_true rfl) ?_
  intro p e s m below meth c A ls hAe S hr hlk hnm hA hT hX hw hl
  have hl : lv_has ls 1 [(0, .int p0)] := hl
  have lp0 := Int32.le_toInt p0
  have up0 := Int32.toInt_lt p0
  have cstm1 : ((-1) : Int32).toInt = (-1) := rfl
  have cst10 : (10 : Int32).toInt = 10 := rfl
  have cst48 : (48 : Int32).toInt = 48 := rfl
  have cst65 : (65 : Int32).toInt = 65 := rfl
  have cst70 : (70 : Int32).toInt = 70 := rfl
  have cst97 : (97 : Int32).toInt = 97 := rfl
  have cst102 : (102 : Int32).toInt = 102 := rfl
  refine lv_iload_n S.x S.b d_Mpg_figure_0 rfl (lv_at hl 0 rfl) ?_
  refine px_calli (pr := []) (px_runS (As := [.int p0]) (rest := []) S (c_mp_isDigit l D cs  p0   _) hT (pr := []) (pcs := []) hw px_X.tt m11_152 m11_150 m11_151 m1_21 q_Mpg_isDigit ⟨Nat.le_of_ble_eq_true rfl, Nat.le_of_ble_eq_true rfl⟩ hl.1 rfl (Nat.le_of_ble_eq_true rfl) d_Mpg_figure_1 ⟨Nat.le_of_ble_eq_true rfl, Nat.le_of_ble_eq_true rfl⟩) hw hA (fun v2 p1 H locs hp1 hw => ?_)
  obtain ⟨rfl, e3, e4, e5, e6⟩ := hp1
  have e3 := z_rng e3
  have e4 : v2.toInt = 1 → 48 ≤ p0.toInt ∧ p0.toInt ≤ 57 := e4
  have e5 : DgV p0.toInt v2.toInt := e5
  have e6 : R_mp_isDigit p0 v2 := e6
  have lv2 := Int32.le_toInt v2
  have uv2 := Int32.toInt_lt v2
  refine lv_if_eq (tgt := 14) S.x S.b d_Mpg_figure_4 (by decide) (fun c7 => ?_) (fun c7 => ?_)
  · have nc7 : v2.toInt = (0 : Int) := (i_eq (x := v2) (y := 0)).mp c7
    refine lv_iload_n S.x S.b d_Mpg_figure_14 rfl (lv_at hl 0 rfl) ?_
    refine lv_bipush (v := 97) S.x S.b d_Mpg_figure_15 (by decide) ?_
    refine lv_icmp_lt (tgt := 36) S.x S.b d_Mpg_figure_17 (by decide) (fun c9 => ?_) (fun c9 => ?_)
    · have nc9 : p0.toInt < (97 : Int) := (i_lt (x := p0) (y := 97)).mp c9
      refine lv_iload_n S.x S.b d_Mpg_figure_36 rfl (lv_at hl 0 rfl) ?_
      refine lv_bipush (v := 65) S.x S.b d_Mpg_figure_37 (by decide) ?_
      refine lv_icmp_lt (tgt := 58) S.x S.b d_Mpg_figure_39 (by decide) (fun c11 => ?_) (fun c11 => ?_)
      · have nc11 : p0.toInt < (65 : Int) := (i_lt (x := p0) (y := 65)).mp c11
        refine lv_iconst (v := (-1)) S.x S.b d_Mpg_figure_58 (by decide) ?_
        first | exact px_iret (v := (-1)) S hr rfl hlk hAe hw (Nat.le_of_ble_eq_true rfl) (Nat.le_of_ble_eq_true rfl) (⟨rfl, (show -1 ≤ (-1 : Int) from oz_268d846349), (show (-1 : Int) ≤ 15 from oz_74670a6e63), (show 0 ≤ (-1 : Int) → 48 ≤ p0.toInt from by omega), (show R_mp_figure p0 (-1 : Int32) from (Or.inl ⟨v2, e6, Or.inl ⟨nc7, Or.inl ⟨nc9, Or.inl ⟨nc11, rfl⟩⟩⟩⟩))⟩) d_Mpg_figure_59 | (exact px_iret (v := (-1)) S hr rfl hlk hAe hw (Nat.le_of_ble_eq_true rfl) (Nat.le_of_ble_eq_true rfl) (⟨rfl, (show -1 ≤ (-1 : Int) from by first | exact oz_268d846349 | omega), (show (-1 : Int) ≤ 15 from by first | exact oz_74670a6e63 | omega), (show 0 ≤ (-1 : Int) → 48 ≤ p0.toInt from by omega), (show R_mp_figure p0 (-1 : Int32) from (Or.inl ⟨v2, e6, Or.inl ⟨nc7, Or.inl ⟨nc9, Or.inl ⟨nc11, rfl⟩⟩⟩⟩))⟩) d_Mpg_figure_59)
      · have nc11 : ¬ p0.toInt < (65 : Int) := mt (i_lt (x := p0) (y := 65)).mpr c11
        refine lv_iload_n S.x S.b d_Mpg_figure_42 rfl (lv_at hl 0 rfl) ?_
        refine lv_bipush (v := 70) S.x S.b d_Mpg_figure_43 (by decide) ?_
        refine lv_icmp_gt (tgt := 58) S.x S.b d_Mpg_figure_45 (by decide) (fun c13 => ?_) (fun c13 => ?_)
        · have nc13 : (70 : Int) < p0.toInt := (i_lt (x := 70) (y := p0)).mp c13
          refine lv_iconst (v := (-1)) S.x S.b d_Mpg_figure_58 (by decide) ?_
          first | exact px_iret (v := (-1)) S hr rfl hlk hAe hw (Nat.le_of_ble_eq_true rfl) (Nat.le_of_ble_eq_true rfl) (⟨rfl, (show -1 ≤ (-1 : Int) from oz_268d846349), (show (-1 : Int) ≤ 15 from oz_74670a6e63), (show 0 ≤ (-1 : Int) → 48 ≤ p0.toInt from by omega), (show R_mp_figure p0 (-1 : Int32) from (Or.inl ⟨v2, e6, Or.inl ⟨nc7, Or.inl ⟨nc9, Or.inr ⟨nc11, Or.inl ⟨nc13, rfl⟩⟩⟩⟩⟩))⟩) d_Mpg_figure_59 | (exact px_iret (v := (-1)) S hr rfl hlk hAe hw (Nat.le_of_ble_eq_true rfl) (Nat.le_of_ble_eq_true rfl) (⟨rfl, (show -1 ≤ (-1 : Int) from by first | exact oz_268d846349 | omega), (show (-1 : Int) ≤ 15 from by first | exact oz_74670a6e63 | omega), (show 0 ≤ (-1 : Int) → 48 ≤ p0.toInt from by omega), (show R_mp_figure p0 (-1 : Int32) from (Or.inl ⟨v2, e6, Or.inl ⟨nc7, Or.inl ⟨nc9, Or.inr ⟨nc11, Or.inl ⟨nc13, rfl⟩⟩⟩⟩⟩))⟩) d_Mpg_figure_59)
        · have nc13 : ¬ (70 : Int) < p0.toInt := mt (i_lt (x := 70) (y := p0)).mpr c13
          refine lv_iload_n S.x S.b d_Mpg_figure_48 rfl (lv_at hl 0 rfl) ?_
          refine lv_bipush (v := 65) S.x S.b d_Mpg_figure_49 (by decide) ?_
          refine lv_isub S.x S.b d_Mpg_figure_51 ?_
          refine lv_topi (fun z15 ez15 => ?_)
          have tz15 : z15.toInt = (p0.toInt - (65 : Int) + 2147483648) % 4294967296 - 2147483648 := by rw [ez15]; exact i_sub p0 65
          have lz15 := Int32.le_toInt z15
          have uz15 := Int32.toInt_lt z15
          try replace tz15 : z15.toInt = p0.toInt - (65 : Int) := by omega
          refine lv_bipush (v := 10) S.x S.b d_Mpg_figure_52 (by decide) ?_
          refine lv_iadd S.x S.b d_Mpg_figure_54 ?_
          refine lv_topi (fun z16 ez16 => ?_)
          have tz16 : z16.toInt = (z15.toInt + (10 : Int) + 2147483648) % 4294967296 - 2147483648 := by rw [ez16]; exact i_add z15 10
          have lz16 := Int32.le_toInt z16
          have uz16 := Int32.toInt_lt z16
          try replace tz16 : z16.toInt = z15.toInt + (10 : Int) := by omega
          refine lv_goto (tgt := 59) S.x S.b d_Mpg_figure_55 (by decide) ?_
          first | exact px_iret (v := z16) S hr rfl hlk hAe hw (Nat.le_of_ble_eq_true rfl) (Nat.le_of_ble_eq_true rfl) (⟨rfl, (show -1 ≤ z16.toInt from (oz_4554306096 tz16 tz15 nc11)), (show z16.toInt ≤ 15 from (oz_6fb5beb8c7 tz16 tz15 nc13)), (show 0 ≤ z16.toInt → 48 ≤ p0.toInt from (fun q9 => oz_74a33bee28 nc11)), (show R_mp_figure p0 z16 from (Or.inl ⟨v2, e6, Or.inl ⟨nc7, Or.inl ⟨nc9, Or.inr ⟨nc11, Or.inr ⟨nc13, z15, ez15, z16, ez16, rfl⟩⟩⟩⟩⟩))⟩) d_Mpg_figure_59 | (exact px_iret (v := z16) S hr rfl hlk hAe hw (Nat.le_of_ble_eq_true rfl) (Nat.le_of_ble_eq_true rfl) (⟨rfl, (show -1 ≤ z16.toInt from by first | exact oz_4554306096 tz16 tz15 nc11 | omega), (show z16.toInt ≤ 15 from by first | exact oz_6fb5beb8c7 tz16 tz15 nc13 | omega), (show 0 ≤ z16.toInt → 48 ≤ p0.toInt from by first | exact fun q9 => oz_74a33bee28 nc11 | omega), (show R_mp_figure p0 z16 from (Or.inl ⟨v2, e6, Or.inl ⟨nc7, Or.inl ⟨nc9, Or.inr ⟨nc11, Or.inr ⟨nc13, z15, ez15, z16, ez16, rfl⟩⟩⟩⟩⟩))⟩) d_Mpg_figure_59)
    · have nc9 : ¬ p0.toInt < (97 : Int) := mt (i_lt (x := p0) (y := 97)).mpr c9
      refine lv_iload_n S.x S.b d_Mpg_figure_20 rfl (lv_at hl 0 rfl) ?_
      refine lv_bipush (v := 102) S.x S.b d_Mpg_figure_21 (by decide) ?_
      refine lv_icmp_gt (tgt := 36) S.x S.b d_Mpg_figure_23 (by decide) (fun c17 => ?_) (fun c17 => ?_)
      · have nc17 : (102 : Int) < p0.toInt := (i_lt (x := 102) (y := p0)).mp c17
        refine lv_iload_n S.x S.b d_Mpg_figure_36 rfl (lv_at hl 0 rfl) ?_
        refine lv_bipush (v := 65) S.x S.b d_Mpg_figure_37 (by decide) ?_
        refine lv_icmp_lt (tgt := 58) S.x S.b d_Mpg_figure_39 (by decide) (fun c19 => ?_) (fun c19 => ?_)
        · have nc19 : p0.toInt < (65 : Int) := (i_lt (x := p0) (y := 65)).mp c19
          refine lv_iconst (v := (-1)) S.x S.b d_Mpg_figure_58 (by decide) ?_
          first | exact px_iret (v := (-1)) S hr rfl hlk hAe hw (Nat.le_of_ble_eq_true rfl) (Nat.le_of_ble_eq_true rfl) (⟨rfl, (show -1 ≤ (-1 : Int) from oz_268d846349), (show (-1 : Int) ≤ 15 from oz_74670a6e63), (show 0 ≤ (-1 : Int) → 48 ≤ p0.toInt from by omega), (show R_mp_figure p0 (-1 : Int32) from (Or.inl ⟨v2, e6, Or.inl ⟨nc7, Or.inr ⟨nc9, Or.inl ⟨nc17, Or.inl ⟨nc19, rfl⟩⟩⟩⟩⟩))⟩) d_Mpg_figure_59 | (exact px_iret (v := (-1)) S hr rfl hlk hAe hw (Nat.le_of_ble_eq_true rfl) (Nat.le_of_ble_eq_true rfl) (⟨rfl, (show -1 ≤ (-1 : Int) from by first | exact oz_268d846349 | omega), (show (-1 : Int) ≤ 15 from by first | exact oz_74670a6e63 | omega), (show 0 ≤ (-1 : Int) → 48 ≤ p0.toInt from by omega), (show R_mp_figure p0 (-1 : Int32) from (Or.inl ⟨v2, e6, Or.inl ⟨nc7, Or.inr ⟨nc9, Or.inl ⟨nc17, Or.inl ⟨nc19, rfl⟩⟩⟩⟩⟩))⟩) d_Mpg_figure_59)
        · have nc19 : ¬ p0.toInt < (65 : Int) := mt (i_lt (x := p0) (y := 65)).mpr c19
          refine lv_iload_n S.x S.b d_Mpg_figure_42 rfl (lv_at hl 0 rfl) ?_
          refine lv_bipush (v := 70) S.x S.b d_Mpg_figure_43 (by decide) ?_
          refine lv_icmp_gt (tgt := 58) S.x S.b d_Mpg_figure_45 (by decide) (fun c21 => ?_) (fun c21 => ?_)
          · have nc21 : (70 : Int) < p0.toInt := (i_lt (x := 70) (y := p0)).mp c21
            refine lv_iconst (v := (-1)) S.x S.b d_Mpg_figure_58 (by decide) ?_
            first | exact px_iret (v := (-1)) S hr rfl hlk hAe hw (Nat.le_of_ble_eq_true rfl) (Nat.le_of_ble_eq_true rfl) (⟨rfl, (show -1 ≤ (-1 : Int) from oz_268d846349), (show (-1 : Int) ≤ 15 from oz_74670a6e63), (show 0 ≤ (-1 : Int) → 48 ≤ p0.toInt from by omega), (show R_mp_figure p0 (-1 : Int32) from (Or.inl ⟨v2, e6, Or.inl ⟨nc7, Or.inr ⟨nc9, Or.inl ⟨nc17, Or.inr ⟨nc19, Or.inl ⟨nc21, rfl⟩⟩⟩⟩⟩⟩))⟩) d_Mpg_figure_59 | (exact px_iret (v := (-1)) S hr rfl hlk hAe hw (Nat.le_of_ble_eq_true rfl) (Nat.le_of_ble_eq_true rfl) (⟨rfl, (show -1 ≤ (-1 : Int) from by first | exact oz_268d846349 | omega), (show (-1 : Int) ≤ 15 from by first | exact oz_74670a6e63 | omega), (show 0 ≤ (-1 : Int) → 48 ≤ p0.toInt from by omega), (show R_mp_figure p0 (-1 : Int32) from (Or.inl ⟨v2, e6, Or.inl ⟨nc7, Or.inr ⟨nc9, Or.inl ⟨nc17, Or.inr ⟨nc19, Or.inl ⟨nc21, rfl⟩⟩⟩⟩⟩⟩))⟩) d_Mpg_figure_59)
          · have nc21 : ¬ (70 : Int) < p0.toInt := mt (i_lt (x := 70) (y := p0)).mpr c21
            refine lv_iload_n S.x S.b d_Mpg_figure_48 rfl (lv_at hl 0 rfl) ?_
            refine lv_bipush (v := 65) S.x S.b d_Mpg_figure_49 (by decide) ?_
            refine lv_isub S.x S.b d_Mpg_figure_51 ?_
            refine lv_topi (fun z23 ez23 => ?_)
            have tz23 : z23.toInt = (p0.toInt - (65 : Int) + 2147483648) % 4294967296 - 2147483648 := by rw [ez23]; exact i_sub p0 65
            have lz23 := Int32.le_toInt z23
            have uz23 := Int32.toInt_lt z23
            first | replace tz23 : z23.toInt = p0.toInt - (65 : Int) := (oz_5d034a83b0 nc17 nc21) | (try replace tz23 : z23.toInt = p0.toInt - (65 : Int) := by first | exact oz_5d034a83b0 nc17 nc21 | omega)
            refine lv_bipush (v := 10) S.x S.b d_Mpg_figure_52 (by decide) ?_
            refine lv_iadd S.x S.b d_Mpg_figure_54 ?_
            refine lv_topi (fun z24 ez24 => ?_)
            have tz24 : z24.toInt = (z23.toInt + (10 : Int) + 2147483648) % 4294967296 - 2147483648 := by rw [ez24]; exact i_add z23 10
            have lz24 := Int32.le_toInt z24
            have uz24 := Int32.toInt_lt z24
            first | replace tz24 : z24.toInt = z23.toInt + (10 : Int) := (oz_a0de719061 nc17 nc21) | (try replace tz24 : z24.toInt = z23.toInt + (10 : Int) := by first | exact oz_a0de719061 nc17 nc21 | omega)
            refine lv_goto (tgt := 59) S.x S.b d_Mpg_figure_55 (by decide) ?_
            first | exact px_iret (v := z24) S hr rfl hlk hAe hw (Nat.le_of_ble_eq_true rfl) (Nat.le_of_ble_eq_true rfl) (⟨rfl, (show -1 ≤ z24.toInt from (oz_c012b0f594 tz24 tz23 nc17)), (show z24.toInt ≤ 15 from (oz_5e4a46b043 nc17 nc21)), (show 0 ≤ z24.toInt → 48 ≤ p0.toInt from (fun q9 => oz_e582639630 nc17)), (show R_mp_figure p0 z24 from (Or.inl ⟨v2, e6, Or.inl ⟨nc7, Or.inr ⟨nc9, Or.inl ⟨nc17, Or.inr ⟨nc19, Or.inr ⟨nc21, z23, ez23, z24, ez24, rfl⟩⟩⟩⟩⟩⟩))⟩) d_Mpg_figure_59 | (exact px_iret (v := z24) S hr rfl hlk hAe hw (Nat.le_of_ble_eq_true rfl) (Nat.le_of_ble_eq_true rfl) (⟨rfl, (show -1 ≤ z24.toInt from by first | exact oz_c012b0f594 tz24 tz23 nc17 | omega), (show z24.toInt ≤ 15 from by first | exact oz_5e4a46b043 nc17 nc21 | omega), (show 0 ≤ z24.toInt → 48 ≤ p0.toInt from by first | exact fun q9 => oz_e582639630 nc17 | omega), (show R_mp_figure p0 z24 from (Or.inl ⟨v2, e6, Or.inl ⟨nc7, Or.inr ⟨nc9, Or.inl ⟨nc17, Or.inr ⟨nc19, Or.inr ⟨nc21, z23, ez23, z24, ez24, rfl⟩⟩⟩⟩⟩⟩))⟩) d_Mpg_figure_59)
      · have nc17 : ¬ (102 : Int) < p0.toInt := mt (i_lt (x := 102) (y := p0)).mpr c17
        refine lv_iload_n S.x S.b d_Mpg_figure_26 rfl (lv_at hl 0 rfl) ?_
        refine lv_bipush (v := 97) S.x S.b d_Mpg_figure_27 (by decide) ?_
        refine lv_isub S.x S.b d_Mpg_figure_29 ?_
        refine lv_topi (fun z25 ez25 => ?_)
        have tz25 : z25.toInt = (p0.toInt - (97 : Int) + 2147483648) % 4294967296 - 2147483648 := by rw [ez25]; exact i_sub p0 97
        have lz25 := Int32.le_toInt z25
        have uz25 := Int32.toInt_lt z25
        try replace tz25 : z25.toInt = p0.toInt - (97 : Int) := by omega
        refine lv_bipush (v := 10) S.x S.b d_Mpg_figure_30 (by decide) ?_
        refine lv_iadd S.x S.b d_Mpg_figure_32 ?_
        refine lv_topi (fun z26 ez26 => ?_)
        have tz26 : z26.toInt = (z25.toInt + (10 : Int) + 2147483648) % 4294967296 - 2147483648 := by rw [ez26]; exact i_add z25 10
        have lz26 := Int32.le_toInt z26
        have uz26 := Int32.toInt_lt z26
        try replace tz26 : z26.toInt = z25.toInt + (10 : Int) := by omega
        refine lv_goto (tgt := 59) S.x S.b d_Mpg_figure_33 (by decide) ?_
        first | exact px_iret (v := z26) S hr rfl hlk hAe hw (Nat.le_of_ble_eq_true rfl) (Nat.le_of_ble_eq_true rfl) (⟨rfl, (show -1 ≤ z26.toInt from (oz_19a540d9ab tz26 tz25 nc9)), (show z26.toInt ≤ 15 from (oz_91164d6c55 tz26 tz25 nc17)), (show 0 ≤ z26.toInt → 48 ≤ p0.toInt from (fun q9 => oz_0139980d7e nc9)), (show R_mp_figure p0 z26 from (Or.inl ⟨v2, e6, Or.inl ⟨nc7, Or.inr ⟨nc9, Or.inr ⟨nc17, z25, ez25, z26, ez26, rfl⟩⟩⟩⟩))⟩) d_Mpg_figure_59 | (exact px_iret (v := z26) S hr rfl hlk hAe hw (Nat.le_of_ble_eq_true rfl) (Nat.le_of_ble_eq_true rfl) (⟨rfl, (show -1 ≤ z26.toInt from by first | exact oz_19a540d9ab tz26 tz25 nc9 | omega), (show z26.toInt ≤ 15 from by first | exact oz_91164d6c55 tz26 tz25 nc17 | omega), (show 0 ≤ z26.toInt → 48 ≤ p0.toInt from by first | exact fun q9 => oz_0139980d7e nc9 | omega), (show R_mp_figure p0 z26 from (Or.inl ⟨v2, e6, Or.inl ⟨nc7, Or.inr ⟨nc9, Or.inr ⟨nc17, z25, ez25, z26, ez26, rfl⟩⟩⟩⟩))⟩) d_Mpg_figure_59)
  · have nc7 : ¬ v2.toInt = (0 : Int) := mt (i_eq (x := v2) (y := 0)).mpr c7
    refine lv_iload_n S.x S.b d_Mpg_figure_7 rfl (lv_at hl 0 rfl) ?_
    refine lv_bipush (v := 48) S.x S.b d_Mpg_figure_8 (by decide) ?_
    refine lv_isub S.x S.b d_Mpg_figure_10 ?_
    refine lv_topi (fun z27 ez27 => ?_)
    have tz27 : z27.toInt = (p0.toInt - (48 : Int) + 2147483648) % 4294967296 - 2147483648 := by rw [ez27]; exact i_sub p0 48
    have lz27 := Int32.le_toInt z27
    have uz27 := Int32.toInt_lt z27
    try replace tz27 : z27.toInt = p0.toInt - (48 : Int) := by omega
    refine lv_goto (tgt := 59) S.x S.b d_Mpg_figure_11 (by decide) ?_
    first | exact px_iret (v := z27) S hr rfl hlk hAe hw (Nat.le_of_ble_eq_true rfl) (Nat.le_of_ble_eq_true rfl) (⟨rfl, (show -1 ≤ z27.toInt from by omega), (show z27.toInt ≤ 15 from by omega), (show 0 ≤ z27.toInt → 48 ≤ p0.toInt from (fun q9 => oz_0bfa03eb15 tz27 q9)), (show R_mp_figure p0 z27 from (Or.inl ⟨v2, e6, Or.inr ⟨nc7, z27, ez27, rfl⟩⟩))⟩) d_Mpg_figure_59 | (exact px_iret (v := z27) S hr rfl hlk hAe hw (Nat.le_of_ble_eq_true rfl) (Nat.le_of_ble_eq_true rfl) (⟨rfl, (show -1 ≤ z27.toInt from by omega), (show z27.toInt ≤ 15 from by omega), (show 0 ≤ z27.toInt → 48 ≤ p0.toInt from by first | exact fun q9 => oz_0bfa03eb15 tz27 q9 | omega), (show R_mp_figure p0 z27 from (Or.inl ⟨v2, e6, Or.inr ⟨nc7, z27, ez27, rfl⟩⟩))⟩) d_Mpg_figure_59)
abbrev b_Mpg_byteAt : ByteArray := prog_16_method_2_code
def y_Mpg_byteAt : MethodName := ⟨"HomeSystemModel$Program", "byteAt", "(I)I"⟩
theorem d_Mpg_byteAt_0 : decode b_Mpg_byteAt 0 = .ok (.iload_n 1, 1) := by decide +kernel
theorem d_Mpg_byteAt_1 : decode b_Mpg_byteAt 1 = .ok (.aload_n 0, 1) := by decide +kernel
theorem d_Mpg_byteAt_2 : decode b_Mpg_byteAt 2 = .ok (.getfield 292, 3) := by decide +kernel
theorem d_Mpg_byteAt_5 : decode b_Mpg_byteAt 5 = .ok (.if_icmp .ge 12, 3) := by decide +kernel
theorem d_Mpg_byteAt_8 : decode b_Mpg_byteAt 8 = .ok (.aload_n 0, 1) := by decide +kernel
theorem d_Mpg_byteAt_9 : decode b_Mpg_byteAt 9 = .ok (.getfield 190, 3) := by decide +kernel
theorem d_Mpg_byteAt_12 : decode b_Mpg_byteAt 12 = .ok (.iload_n 1, 1) := by decide +kernel
theorem d_Mpg_byteAt_13 : decode b_Mpg_byteAt 13 = .ok (.baload, 1) := by decide +kernel
theorem d_Mpg_byteAt_14 : decode b_Mpg_byteAt 14 = .ok (.goto 4, 3) := by decide +kernel
theorem d_Mpg_byteAt_17 : decode b_Mpg_byteAt 17 = .ok (.iconst (-1), 1) := by decide +kernel
theorem d_Mpg_byteAt_18 : decode b_Mpg_byteAt 18 = .ok (.ireturn, 1) := by decide +kernel
theorem q_Mpg_byteAt : px_y y_Mpg_byteAt 1 := by unfold px_y; decide +kernel
set_option maxHeartbeats 4000000 in
set_option maxRecDepth 100000 in
theorem c_mp_byteAt (l : Launch) (D : va_G) (cs : Nat → ClassId) (h : Nat) (r : Nat → Nat) (g : Nat → Nat → Option Nat) (tf : Nat → Int32) (ta : Nat → Nat → Int32) (pf : Nat → Int32) (na : Nat → Nat → Int32) (ma : Nat → Nat → Int32) (wa : Nat → Nat → Int32) (cf : Nat → Int32) (ca : Nat → Nat → Int32) (ef : Nat → Int32) (ea : Nat → Nat → Int32) (xf : Nat → Int32) (xa : Nat → Nat → Int32) (p0 : Int32)  (g0 : 0 ≤ (tf 5).toInt) (g1 : (tf 5).toInt ≤ 2048) (g2 : 0 ≤ p0.toInt) : MetI l y_Mpg_byteAt b_Mpg_byteAt 2 (.int) D cs 0 0 (0) (0) [.ref h, .int p0] [wdP cs h r g tf ta pf na ma wa cf ca ef ea xf xa] (fun _ => True) (fun v ps => (ps = [wdP cs h r g tf ta pf na ma wa cf ca ef ea xf xa]) ∧ (p0.toInt < (tf 5).toInt ∨ v.toInt = -1) ∧ (BtV ta (tf 5).toInt p0.toInt v.toInt) ∧ (R_mp_byteAt tf ta p0 v)) := by
  refine px_enter (by decide) (Nat.le_of_ble_eq_true rfl) ?_
  intro p e s m below meth c A ls hAe S hr hlk hnm hA hT hX hw hl
  have hl : lv_has ls 2 [(0, .ref h), (1, .int p0)] := hl
  have lp0 := Int32.le_toInt p0
  have up0 := Int32.toInt_lt p0
  have cstm1 : ((-1) : Int32).toInt = (-1) := rfl
  refine lv_iload_n S.x S.b d_Mpg_byteAt_0 rfl (lv_at hl 1 rfl) ?_
  refine lv_aload_n S.x S.b d_Mpg_byteAt_1 rfl (lv_at hl 0 rfl) ?_
  refine gP_5 (v := (tf 5)) S hT hw 0 rfl rfl m9_229 d_Mpg_byteAt_2 ?_
  refine lv_icmp_ge (tgt := 17) S.x S.b d_Mpg_byteAt_5 (by decide) (fun c1 => ?_) (fun c1 => ?_)
  · have nc1 : (tf 5).toInt ≤ p0.toInt := (i_le (x := (tf 5)) (y := p0)).mp c1
    refine lv_iconst (v := (-1)) S.x S.b d_Mpg_byteAt_17 (by decide) ?_
    exact px_iret (v := (-1)) S hr rfl hlk hAe hw (Nat.le_of_ble_eq_true rfl) (Nat.le_of_ble_eq_true rfl) (⟨rfl, (show p0.toInt < (tf 5).toInt ∨ (-1 : Int) = -1 from by omega), (show BtV ta (tf 5).toInt p0.toInt (-1 : Int) from (by first | exact bt_mk (by omega) (by omega) (by assumption) | exact bt_no (by omega) (by rfl))), (show R_mp_byteAt tf ta p0 (-1 : Int32) from (Or.inl (Or.inl ⟨nc1, rfl⟩)))⟩) d_Mpg_byteAt_18
  · have nc1 : ¬ (tf 5).toInt ≤ p0.toInt := mt (i_le (x := (tf 5)) (y := p0)).mpr c1
    refine lv_aload_n S.x S.b d_Mpg_byteAt_8 rfl (lv_at hl 0 rfl) ?_
    refine gP_4 S hT hw 0 rfl m9_228 d_Mpg_byteAt_9 ?_
    refine lv_iload_n S.x S.b d_Mpg_byteAt_12 rfl (lv_at hl 1 rfl) ?_
    refine px_bald S hT hw 0 5 (n := 2048) (f := (ta 4)) rfl gp_4 (x := p0) (vp_in_iff.mpr (by first | exact oz_09e936ef1f g2 nc1 g1 | (constructor <;> omega))) d_Mpg_byteAt_13 ?_
    refine lv_topi (fun z3 ez3 => ?_)
    have lz3 := Int32.le_toInt z3
    have uz3 := Int32.toInt_lt z3
    refine lv_goto (tgt := 18) S.x S.b d_Mpg_byteAt_14 (by decide) ?_
    exact px_iret (v := z3) S hr rfl hlk hAe hw (Nat.le_of_ble_eq_true rfl) (Nat.le_of_ble_eq_true rfl) (⟨rfl, (show p0.toInt < (tf 5).toInt ∨ z3.toInt = -1 from by omega), (show BtV ta (tf 5).toInt p0.toInt z3.toInt from (by first | exact bt_mk (by omega) (by omega) (by assumption) | exact bt_no (by omega) (by rfl))), (show R_mp_byteAt tf ta p0 z3 from (Or.inl (Or.inr ⟨nc1, z3, ez3, rfl⟩)))⟩) d_Mpg_byteAt_18
abbrev b_Mpg_character : ByteArray := prog_16_method_7_code
def y_Mpg_character : MethodName := ⟨"HomeSystemModel$Program", "character", "(II)I"⟩
theorem d_Mpg_character_0 : decode b_Mpg_character 0 = .ok (.aload_n 0, 1) := by decide +kernel
theorem d_Mpg_character_1 : decode b_Mpg_character 1 = .ok (.iload_n 1, 1) := by decide +kernel
theorem d_Mpg_character_2 : decode b_Mpg_character 2 = .ok (.invokevirtual 300, 3) := by decide +kernel
theorem d_Mpg_character_5 : decode b_Mpg_character 5 = .ok (.istore_n 3, 1) := by decide +kernel
theorem d_Mpg_character_6 : decode b_Mpg_character 6 = .ok (.iload_n 3, 1) := by decide +kernel
theorem d_Mpg_character_7 : decode b_Mpg_character 7 = .ok (.bipush 92, 2) := by decide +kernel
theorem d_Mpg_character_9 : decode b_Mpg_character 9 = .ok (.if_icmp .ne 72, 3) := by decide +kernel
theorem d_Mpg_character_12 : decode b_Mpg_character 12 = .ok (.aload_n 0, 1) := by decide +kernel
theorem d_Mpg_character_13 : decode b_Mpg_character 13 = .ok (.iload_n 1, 1) := by decide +kernel
theorem d_Mpg_character_14 : decode b_Mpg_character 14 = .ok (.iconst 1, 1) := by decide +kernel
theorem d_Mpg_character_15 : decode b_Mpg_character 15 = .ok (.iadd, 1) := by decide +kernel
theorem d_Mpg_character_16 : decode b_Mpg_character 16 = .ok (.invokevirtual 300, 3) := by decide +kernel
theorem d_Mpg_character_19 : decode b_Mpg_character 19 = .ok (.istore 4, 2) := by decide +kernel
theorem d_Mpg_character_21 : decode b_Mpg_character 21 = .ok (.iload 4, 2) := by decide +kernel
theorem d_Mpg_character_23 : decode b_Mpg_character 23 = .ok (.bipush 110, 2) := by decide +kernel
theorem d_Mpg_character_25 : decode b_Mpg_character 25 = .ok (.if_icmp .ne 8, 3) := by decide +kernel
theorem d_Mpg_character_28 : decode b_Mpg_character 28 = .ok (.bipush 10, 2) := by decide +kernel
theorem d_Mpg_character_30 : decode b_Mpg_character 30 = .ok (.goto 33, 3) := by decide +kernel
theorem d_Mpg_character_33 : decode b_Mpg_character 33 = .ok (.iload 4, 2) := by decide +kernel
theorem d_Mpg_character_35 : decode b_Mpg_character 35 = .ok (.bipush 48, 2) := by decide +kernel
theorem d_Mpg_character_37 : decode b_Mpg_character 37 = .ok (.if_icmp .ne 7, 3) := by decide +kernel
theorem d_Mpg_character_40 : decode b_Mpg_character 40 = .ok (.iconst 0, 1) := by decide +kernel
theorem d_Mpg_character_41 : decode b_Mpg_character 41 = .ok (.goto 22, 3) := by decide +kernel
theorem d_Mpg_character_44 : decode b_Mpg_character 44 = .ok (.iload 4, 2) := by decide +kernel
theorem d_Mpg_character_46 : decode b_Mpg_character 46 = .ok (.iload_n 2, 1) := by decide +kernel
theorem d_Mpg_character_47 : decode b_Mpg_character 47 = .ok (.if_icmp .eq 10, 3) := by decide +kernel
theorem d_Mpg_character_50 : decode b_Mpg_character 50 = .ok (.iload 4, 2) := by decide +kernel
theorem d_Mpg_character_52 : decode b_Mpg_character 52 = .ok (.bipush 92, 2) := by decide +kernel
theorem d_Mpg_character_54 : decode b_Mpg_character 54 = .ok (.if_icmp .ne 8, 3) := by decide +kernel
theorem d_Mpg_character_57 : decode b_Mpg_character 57 = .ok (.iload 4, 2) := by decide +kernel
theorem d_Mpg_character_59 : decode b_Mpg_character 59 = .ok (.goto 4, 3) := by decide +kernel
theorem d_Mpg_character_62 : decode b_Mpg_character 62 = .ok (.iconst (-1), 1) := by decide +kernel
theorem d_Mpg_character_63 : decode b_Mpg_character 63 = .ok (.istore 5, 2) := by decide +kernel
theorem d_Mpg_character_65 : decode b_Mpg_character 65 = .ok (.iload 5, 2) := by decide +kernel
theorem d_Mpg_character_67 : decode b_Mpg_character 67 = .ok (.ifCond .ge 7, 3) := by decide +kernel
theorem d_Mpg_character_70 : decode b_Mpg_character 70 = .ok (.iconst (-1), 1) := by decide +kernel
theorem d_Mpg_character_71 : decode b_Mpg_character 71 = .ok (.goto 9, 3) := by decide +kernel
theorem d_Mpg_character_74 : decode b_Mpg_character 74 = .ok (.iload 5, 2) := by decide +kernel
theorem d_Mpg_character_76 : decode b_Mpg_character 76 = .ok (.sipush 1000, 3) := by decide +kernel
theorem d_Mpg_character_79 : decode b_Mpg_character 79 = .ok (.iadd, 1) := by decide +kernel
theorem d_Mpg_character_80 : decode b_Mpg_character 80 = .ok (.ireturn, 1) := by decide +kernel
theorem d_Mpg_character_81 : decode b_Mpg_character 81 = .ok (.iload_n 3, 1) := by decide +kernel
theorem d_Mpg_character_82 : decode b_Mpg_character 82 = .ok (.bipush 32, 2) := by decide +kernel
theorem d_Mpg_character_84 : decode b_Mpg_character 84 = .ok (.if_icmp .lt 14, 3) := by decide +kernel
theorem d_Mpg_character_87 : decode b_Mpg_character 87 = .ok (.iload_n 3, 1) := by decide +kernel
theorem d_Mpg_character_88 : decode b_Mpg_character 88 = .ok (.bipush 126, 2) := by decide +kernel
theorem d_Mpg_character_90 : decode b_Mpg_character 90 = .ok (.if_icmp .gt 8, 3) := by decide +kernel
theorem d_Mpg_character_93 : decode b_Mpg_character 93 = .ok (.iload_n 3, 1) := by decide +kernel
theorem d_Mpg_character_94 : decode b_Mpg_character 94 = .ok (.iload_n 2, 1) := by decide +kernel
theorem d_Mpg_character_95 : decode b_Mpg_character 95 = .ok (.if_icmp .ne 7, 3) := by decide +kernel
theorem d_Mpg_character_98 : decode b_Mpg_character 98 = .ok (.iconst (-1), 1) := by decide +kernel
theorem d_Mpg_character_99 : decode b_Mpg_character 99 = .ok (.goto 4, 3) := by decide +kernel
theorem d_Mpg_character_102 : decode b_Mpg_character 102 = .ok (.iload_n 3, 1) := by decide +kernel
theorem d_Mpg_character_103 : decode b_Mpg_character 103 = .ok (.ireturn, 1) := by decide +kernel
theorem q_Mpg_character : px_y y_Mpg_character 2 := by unfold px_y; decide +kernel
set_option maxHeartbeats 4000000 in
set_option maxRecDepth 100000 in
theorem c_mp_character (l : Launch) (D : va_G) (cs : Nat → ClassId) (h : Nat) (r : Nat → Nat) (g : Nat → Nat → Option Nat) (tf : Nat → Int32) (ta : Nat → Nat → Int32) (pf : Nat → Int32) (na : Nat → Nat → Int32) (ma : Nat → Nat → Int32) (wa : Nat → Nat → Int32) (cf : Nat → Int32) (ca : Nat → Nat → Int32) (ef : Nat → Int32) (ea : Nat → Nat → Int32) (xf : Nat → Int32) (xa : Nat → Nat → Int32) (p0 p1 : Int32)  (g0 : 0 ≤ (tf 5).toInt) (g1 : (tf 5).toInt ≤ 2048) (g2 : 0 ≤ p0.toInt) (g3 : p0.toInt ≤ 100000) (g4 : 0 ≤ p1.toInt) (g5 : p1.toInt ≤ 100) : MetI l y_Mpg_character b_Mpg_character 6 (.int) D cs 1 30 (0) (0) [.ref h, .int p0, .int p1] [wdP cs h r g tf ta pf na ma wa cf ca ef ea xf xa] (fun _ => True) (fun v ps => (ps = [wdP cs h r g tf ta pf na ma wa cf ca ef ea xf xa]) ∧ (-1 ≤ v.toInt) ∧ (v.toInt ≤ 1126) ∧ (0 ≤ v.toInt → p0.toInt < (tf 5).toInt) ∧ (1000 ≤ v.toInt → p0.toInt + 1 < (tf 5).toInt) ∧ (R_mp_character tf ta p0 p1 v)) := by
  refine px_enter (by decide) (Nat.le_of_ble_eq_true rfl) ?_
  intro p e s m below meth c A ls hAe S hr hlk hnm hA hT hX hw hl
  have hl : lv_has ls 6 [(0, .ref h), (1, .int p0), (2, .int p1)] := hl
  have lp0 := Int32.le_toInt p0
  have up0 := Int32.toInt_lt p0
  have lp1 := Int32.le_toInt p1
  have up1 := Int32.toInt_lt p1
  have cstm1 : ((-1) : Int32).toInt = (-1) := rfl
  have cst0 : (0 : Int32).toInt = 0 := rfl
  have cst1 : (1 : Int32).toInt = 1 := rfl
  have cst10 : (10 : Int32).toInt = 10 := rfl
  have cst32 : (32 : Int32).toInt = 32 := rfl
  have cst48 : (48 : Int32).toInt = 48 := rfl
  have cst92 : (92 : Int32).toInt = 92 := rfl
  have cst110 : (110 : Int32).toInt = 110 := rfl
  have cst126 : (126 : Int32).toInt = 126 := rfl
  have cst1000 : (1000 : Int32).toInt = 1000 := rfl
  refine lv_aload_n S.x S.b d_Mpg_character_0 rfl (lv_at hl 0 rfl) ?_
  refine lv_iload_n S.x S.b d_Mpg_character_1 rfl (lv_at hl 1 rfl) ?_
  first | refine px_calli (pr := []) (px_runV (As := [.int p0]) (rest := []) S (c_mp_byteAt l D cs h r g tf ta pf na ma wa cf ca ef ea xf xa p0  (show 0 ≤ (tf 5).toInt from g0) (show (tf 5).toInt ≤ 2048 from g1) (show 0 ≤ p0.toInt from g2) _) hT (pr := []) (pcs := [wdP cs h r g tf ta pf na ma wa cf ca ef ea xf xa]) hw px_X.tt (px_recv hT hw 0 0 rfl rfl rfl) m11_142 m11_139 m11_141 ms_7_15 m1_21 q_Mpg_byteAt ⟨Nat.le_of_ble_eq_true rfl, Nat.le_of_ble_eq_true rfl⟩ hl.1 rfl (Nat.le_of_ble_eq_true rfl) d_Mpg_character_2 ⟨Nat.le_of_ble_eq_true rfl, Nat.le_of_ble_eq_true rfl⟩) hw hA (fun v2 p1 H locs hp1 hw => ?_) | (refine px_calli (pr := []) (px_runV (As := [.int p0]) (rest := []) S (c_mp_byteAt l D cs h r g tf ta pf na ma wa cf ca ef ea xf xa p0  (show 0 ≤ (tf 5).toInt from by first | exact g0 | omega) (show (tf 5).toInt ≤ 2048 from by first | exact g1 | omega) (show 0 ≤ p0.toInt from by first | exact g2 | omega) _) hT (pr := []) (pcs := [wdP cs h r g tf ta pf na ma wa cf ca ef ea xf xa]) hw px_X.tt (px_recv hT hw 0 0 rfl rfl rfl) m11_142 m11_139 m11_141 ms_7_15 m1_21 q_Mpg_byteAt ⟨Nat.le_of_ble_eq_true rfl, Nat.le_of_ble_eq_true rfl⟩ hl.1 rfl (Nat.le_of_ble_eq_true rfl) d_Mpg_character_2 ⟨Nat.le_of_ble_eq_true rfl, Nat.le_of_ble_eq_true rfl⟩) hw hA (fun v2 p1 H locs hp1 hw => ?_))
  obtain ⟨rfl, e3, e4, e5⟩ := hp1
  have e3 : p0.toInt < (tf 5).toInt ∨ v2.toInt = -1 := e3
  have e4 : BtV ta (tf 5).toInt p0.toInt v2.toInt := e4
  have e5 : R_mp_byteAt tf ta p0 v2 := e5
  have lv2 := Int32.le_toInt v2
  have uv2 := Int32.toInt_lt v2
  refine lv_istore_n (lv' := [(3, .int v2), (0, .ref h), (1, .int p0), (2, .int p1)]) S.x S.b d_Mpg_character_5 rfl hl (by decide) rfl (fun ls hl => ?_)
  refine lv_iload_n S.x S.b d_Mpg_character_6 rfl (lv_at hl 0 rfl) ?_
  refine lv_bipush (v := 92) S.x S.b d_Mpg_character_7 (by decide) ?_
  refine lv_icmp_ne (tgt := 81) S.x S.b d_Mpg_character_9 (by decide) (fun c6 => ?_) (fun c6 => ?_)
  · have nc6 : ¬ v2.toInt = (92 : Int) := mt (i_eq (x := v2) (y := 92)).mpr c6
    refine lv_iload_n S.x S.b d_Mpg_character_81 rfl (lv_at hl 0 rfl) ?_
    refine lv_bipush (v := 32) S.x S.b d_Mpg_character_82 (by decide) ?_
    refine lv_icmp_lt (tgt := 98) S.x S.b d_Mpg_character_84 (by decide) (fun c8 => ?_) (fun c8 => ?_)
    · have nc8 : v2.toInt < (32 : Int) := (i_lt (x := v2) (y := 32)).mp c8
      refine lv_iconst (v := (-1)) S.x S.b d_Mpg_character_98 (by decide) ?_
      refine lv_goto (tgt := 103) S.x S.b d_Mpg_character_99 (by decide) ?_
      first | exact px_iret (v := (-1)) S hr rfl hlk hAe hw (Nat.le_of_ble_eq_true rfl) (Nat.le_of_ble_eq_true rfl) (⟨rfl, (show -1 ≤ (-1 : Int) from oz_268d846349), (show (-1 : Int) ≤ 1126 from oz_dab224bb71), (show 0 ≤ (-1 : Int) → p0.toInt < (tf 5).toInt from by omega), (show 1000 ≤ (-1 : Int) → p0.toInt + 1 < (tf 5).toInt from by omega), (show R_mp_character tf ta p0 p1 (-1 : Int32) from (Or.inl ⟨v2, e5, Or.inl ⟨nc6, Or.inl ⟨nc8, rfl⟩⟩⟩))⟩) d_Mpg_character_103 | (exact px_iret (v := (-1)) S hr rfl hlk hAe hw (Nat.le_of_ble_eq_true rfl) (Nat.le_of_ble_eq_true rfl) (⟨rfl, (show -1 ≤ (-1 : Int) from by first | exact oz_268d846349 | omega), (show (-1 : Int) ≤ 1126 from by first | exact oz_dab224bb71 | omega), (show 0 ≤ (-1 : Int) → p0.toInt < (tf 5).toInt from by omega), (show 1000 ≤ (-1 : Int) → p0.toInt + 1 < (tf 5).toInt from by omega), (show R_mp_character tf ta p0 p1 (-1 : Int32) from (Or.inl ⟨v2, e5, Or.inl ⟨nc6, Or.inl ⟨nc8, rfl⟩⟩⟩))⟩) d_Mpg_character_103)
    · have nc8 : ¬ v2.toInt < (32 : Int) := mt (i_lt (x := v2) (y := 32)).mpr c8
      refine lv_iload_n S.x S.b d_Mpg_character_87 rfl (lv_at hl 0 rfl) ?_
      refine lv_bipush (v := 126) S.x S.b d_Mpg_character_88 (by decide) ?_
      refine lv_icmp_gt (tgt := 98) S.x S.b d_Mpg_character_90 (by decide) (fun c10 => ?_) (fun c10 => ?_)
      · have nc10 : (126 : Int) < v2.toInt := (i_lt (x := 126) (y := v2)).mp c10
        refine lv_iconst (v := (-1)) S.x S.b d_Mpg_character_98 (by decide) ?_
        refine lv_goto (tgt := 103) S.x S.b d_Mpg_character_99 (by decide) ?_
        first | exact px_iret (v := (-1)) S hr rfl hlk hAe hw (Nat.le_of_ble_eq_true rfl) (Nat.le_of_ble_eq_true rfl) (⟨rfl, (show -1 ≤ (-1 : Int) from oz_268d846349), (show (-1 : Int) ≤ 1126 from oz_dab224bb71), (show 0 ≤ (-1 : Int) → p0.toInt < (tf 5).toInt from by omega), (show 1000 ≤ (-1 : Int) → p0.toInt + 1 < (tf 5).toInt from by omega), (show R_mp_character tf ta p0 p1 (-1 : Int32) from (Or.inl ⟨v2, e5, Or.inl ⟨nc6, Or.inr ⟨nc8, Or.inl ⟨nc10, rfl⟩⟩⟩⟩))⟩) d_Mpg_character_103 | (exact px_iret (v := (-1)) S hr rfl hlk hAe hw (Nat.le_of_ble_eq_true rfl) (Nat.le_of_ble_eq_true rfl) (⟨rfl, (show -1 ≤ (-1 : Int) from by first | exact oz_268d846349 | omega), (show (-1 : Int) ≤ 1126 from by first | exact oz_dab224bb71 | omega), (show 0 ≤ (-1 : Int) → p0.toInt < (tf 5).toInt from by omega), (show 1000 ≤ (-1 : Int) → p0.toInt + 1 < (tf 5).toInt from by omega), (show R_mp_character tf ta p0 p1 (-1 : Int32) from (Or.inl ⟨v2, e5, Or.inl ⟨nc6, Or.inr ⟨nc8, Or.inl ⟨nc10, rfl⟩⟩⟩⟩))⟩) d_Mpg_character_103)
      · have nc10 : ¬ (126 : Int) < v2.toInt := mt (i_lt (x := 126) (y := v2)).mpr c10
        refine lv_iload_n S.x S.b d_Mpg_character_93 rfl (lv_at hl 0 rfl) ?_
        refine lv_iload_n S.x S.b d_Mpg_character_94 rfl (lv_at hl 3 rfl) ?_
        refine lv_icmp_ne (tgt := 102) S.x S.b d_Mpg_character_95 (by decide) (fun c12 => ?_) (fun c12 => ?_)
        · have nc12 : ¬ v2.toInt = p1.toInt := mt (i_eq (x := v2) (y := p1)).mpr c12
          refine lv_iload_n S.x S.b d_Mpg_character_102 rfl (lv_at hl 0 rfl) ?_
          first | exact px_iret (v := v2) S hr rfl hlk hAe hw (Nat.le_of_ble_eq_true rfl) (Nat.le_of_ble_eq_true rfl) (⟨rfl, (show -1 ≤ v2.toInt from (oz_30aead52e2 nc8)), (show v2.toInt ≤ 1126 from (oz_5123c04de2 nc10)), (show 0 ≤ v2.toInt → p0.toInt < (tf 5).toInt from (fun q9 => oz_0859334a04 nc8 e3)), (show 1000 ≤ v2.toInt → p0.toInt + 1 < (tf 5).toInt from by omega), (show R_mp_character tf ta p0 p1 v2 from (Or.inl ⟨v2, e5, Or.inl ⟨nc6, Or.inr ⟨nc8, Or.inr ⟨nc10, Or.inl ⟨nc12, rfl⟩⟩⟩⟩⟩))⟩) d_Mpg_character_103 | (exact px_iret (v := v2) S hr rfl hlk hAe hw (Nat.le_of_ble_eq_true rfl) (Nat.le_of_ble_eq_true rfl) (⟨rfl, (show -1 ≤ v2.toInt from by first | exact oz_30aead52e2 nc8 | omega), (show v2.toInt ≤ 1126 from by first | exact oz_5123c04de2 nc10 | omega), (show 0 ≤ v2.toInt → p0.toInt < (tf 5).toInt from by first | exact fun q9 => oz_0859334a04 nc8 e3 | omega), (show 1000 ≤ v2.toInt → p0.toInt + 1 < (tf 5).toInt from by omega), (show R_mp_character tf ta p0 p1 v2 from (Or.inl ⟨v2, e5, Or.inl ⟨nc6, Or.inr ⟨nc8, Or.inr ⟨nc10, Or.inl ⟨nc12, rfl⟩⟩⟩⟩⟩))⟩) d_Mpg_character_103)
        · have nc12 : v2.toInt = p1.toInt := (i_eq (x := v2) (y := p1)).mp c12
          refine lv_iconst (v := (-1)) S.x S.b d_Mpg_character_98 (by decide) ?_
          refine lv_goto (tgt := 103) S.x S.b d_Mpg_character_99 (by decide) ?_
          first | exact px_iret (v := (-1)) S hr rfl hlk hAe hw (Nat.le_of_ble_eq_true rfl) (Nat.le_of_ble_eq_true rfl) (⟨rfl, (show -1 ≤ (-1 : Int) from oz_268d846349), (show (-1 : Int) ≤ 1126 from oz_dab224bb71), (show 0 ≤ (-1 : Int) → p0.toInt < (tf 5).toInt from by omega), (show 1000 ≤ (-1 : Int) → p0.toInt + 1 < (tf 5).toInt from by omega), (show R_mp_character tf ta p0 p1 (-1 : Int32) from (Or.inl ⟨v2, e5, Or.inl ⟨nc6, Or.inr ⟨nc8, Or.inr ⟨nc10, Or.inr ⟨nc12, rfl⟩⟩⟩⟩⟩))⟩) d_Mpg_character_103 | (exact px_iret (v := (-1)) S hr rfl hlk hAe hw (Nat.le_of_ble_eq_true rfl) (Nat.le_of_ble_eq_true rfl) (⟨rfl, (show -1 ≤ (-1 : Int) from by first | exact oz_268d846349 | omega), (show (-1 : Int) ≤ 1126 from by first | exact oz_dab224bb71 | omega), (show 0 ≤ (-1 : Int) → p0.toInt < (tf 5).toInt from by omega), (show 1000 ≤ (-1 : Int) → p0.toInt + 1 < (tf 5).toInt from by omega), (show R_mp_character tf ta p0 p1 (-1 : Int32) from (Or.inl ⟨v2, e5, Or.inl ⟨nc6, Or.inr ⟨nc8, Or.inr ⟨nc10, Or.inr ⟨nc12, rfl⟩⟩⟩⟩⟩))⟩) d_Mpg_character_103)
  · have nc6 : v2.toInt = (92 : Int) := (i_eq (x := v2) (y := 92)).mp c6
    refine lv_aload_n S.x S.b d_Mpg_character_12 rfl (lv_at hl 1 rfl) ?_
    refine lv_iload_n S.x S.b d_Mpg_character_13 rfl (lv_at hl 2 rfl) ?_
    refine lv_iconst (v := 1) S.x S.b d_Mpg_character_14 (by decide) ?_
    refine lv_iadd S.x S.b d_Mpg_character_15 ?_
    refine lv_topi (fun z14 ez14 => ?_)
    have tz14 : z14.toInt = (p0.toInt + (1 : Int) + 2147483648) % 4294967296 - 2147483648 := by rw [ez14]; exact i_add p0 1
    have lz14 := Int32.le_toInt z14
    have uz14 := Int32.toInt_lt z14
    try replace tz14 : z14.toInt = p0.toInt + (1 : Int) := by omega
    first | refine px_calli (pr := []) (px_runV (As := [.int z14]) (rest := []) S (c_mp_byteAt l D cs h r g tf ta pf na ma wa cf ca ef ea xf xa z14  (show 0 ≤ (tf 5).toInt from g0) (show (tf 5).toInt ≤ 2048 from g1) (show 0 ≤ z14.toInt from (oz_b3b25f0e49 tz14 g2)) _) hT (pr := []) (pcs := [wdP cs h r g tf ta pf na ma wa cf ca ef ea xf xa]) hw px_X.tt (px_recv hT hw 0 0 rfl rfl rfl) m11_142 m11_139 m11_141 ms_7_15 m1_21 q_Mpg_byteAt ⟨Nat.le_of_ble_eq_true rfl, Nat.le_of_ble_eq_true rfl⟩ hl.1 rfl (Nat.le_of_ble_eq_true rfl) d_Mpg_character_16 ⟨Nat.le_of_ble_eq_true rfl, Nat.le_of_ble_eq_true rfl⟩) hw hA (fun v16 p15 H locs hp15 hw => ?_) | (refine px_calli (pr := []) (px_runV (As := [.int z14]) (rest := []) S (c_mp_byteAt l D cs h r g tf ta pf na ma wa cf ca ef ea xf xa z14  (show 0 ≤ (tf 5).toInt from by first | exact g0 | omega) (show (tf 5).toInt ≤ 2048 from by first | exact g1 | omega) (show 0 ≤ z14.toInt from by first | exact oz_b3b25f0e49 tz14 g2 | omega) _) hT (pr := []) (pcs := [wdP cs h r g tf ta pf na ma wa cf ca ef ea xf xa]) hw px_X.tt (px_recv hT hw 0 0 rfl rfl rfl) m11_142 m11_139 m11_141 ms_7_15 m1_21 q_Mpg_byteAt ⟨Nat.le_of_ble_eq_true rfl, Nat.le_of_ble_eq_true rfl⟩ hl.1 rfl (Nat.le_of_ble_eq_true rfl) d_Mpg_character_16 ⟨Nat.le_of_ble_eq_true rfl, Nat.le_of_ble_eq_true rfl⟩) hw hA (fun v16 p15 H locs hp15 hw => ?_))
    obtain ⟨rfl, e17, e18, e19⟩ := hp15
    have e17 : z14.toInt < (tf 5).toInt ∨ v16.toInt = -1 := e17
    have e18 : BtV ta (tf 5).toInt z14.toInt v16.toInt := e18
    have e19 : R_mp_byteAt tf ta z14 v16 := e19
    have lv16 := Int32.le_toInt v16
    have uv16 := Int32.toInt_lt v16
    refine lv_istore (lv' := [(4, .int v16), (3, .int v2), (0, .ref h), (1, .int p0), (2, .int p1)]) S.x S.b d_Mpg_character_19 hl (by decide) rfl (fun ls hl => ?_)
    refine lv_iload S.x S.b d_Mpg_character_21 (lv_at hl 0 rfl) ?_
    refine lv_bipush (v := 110) S.x S.b d_Mpg_character_23 (by decide) ?_
    refine lv_icmp_ne (tgt := 33) S.x S.b d_Mpg_character_25 (by decide) (fun c20 => ?_) (fun c20 => ?_)
    · have nc20 : ¬ v16.toInt = (110 : Int) := mt (i_eq (x := v16) (y := 110)).mpr c20
      refine lv_iload S.x S.b d_Mpg_character_33 (lv_at hl 0 rfl) ?_
      refine lv_bipush (v := 48) S.x S.b d_Mpg_character_35 (by decide) ?_
      refine lv_icmp_ne (tgt := 44) S.x S.b d_Mpg_character_37 (by decide) (fun c22 => ?_) (fun c22 => ?_)
      · have nc22 : ¬ v16.toInt = (48 : Int) := mt (i_eq (x := v16) (y := 48)).mpr c22
        refine lv_iload S.x S.b d_Mpg_character_44 (lv_at hl 0 rfl) ?_
        refine lv_iload_n S.x S.b d_Mpg_character_46 rfl (lv_at hl 4 rfl) ?_
        refine lv_icmp_eq (tgt := 57) S.x S.b d_Mpg_character_47 (by decide) (fun c24 => ?_) (fun c24 => ?_)
        · have nc24 : v16.toInt = p1.toInt := (i_eq (x := v16) (y := p1)).mp c24
          refine lv_iload S.x S.b d_Mpg_character_57 (lv_at hl 0 rfl) ?_
          refine lv_goto (tgt := 63) S.x S.b d_Mpg_character_59 (by decide) ?_
          refine lv_istore (lv' := [(5, .int v16), (4, .int v16), (3, .int v2), (0, .ref h), (1, .int p0), (2, .int p1)]) S.x S.b d_Mpg_character_63 hl (by decide) rfl (fun ls hl => ?_)
          refine lv_iload S.x S.b d_Mpg_character_65 (lv_at hl 0 rfl) ?_
          refine lv_if_ge (tgt := 74) S.x S.b d_Mpg_character_67 (by decide) (fun c26 => ?_) (fun c26 => ?_)
          · have nc26 : (0 : Int) ≤ v16.toInt := (i_le (x := 0) (y := v16)).mp c26
            refine lv_iload S.x S.b d_Mpg_character_74 (lv_at hl 0 rfl) ?_
            refine lv_sipush (v := 1000) S.x S.b d_Mpg_character_76 (by decide) ?_
            refine lv_iadd S.x S.b d_Mpg_character_79 ?_
            refine lv_topi (fun z28 ez28 => ?_)
            have tz28 : z28.toInt = (v16.toInt + (1000 : Int) + 2147483648) % 4294967296 - 2147483648 := by rw [ez28]; exact i_add v16 1000
            have lz28 := Int32.le_toInt z28
            have uz28 := Int32.toInt_lt z28
            try replace tz28 : z28.toInt = v16.toInt + (1000 : Int) := by omega
            first | exact px_iret (v := z28) S hr rfl hlk hAe hw (Nat.le_of_ble_eq_true rfl) (Nat.le_of_ble_eq_true rfl) (⟨rfl, (show -1 ≤ z28.toInt from (oz_aafb056208 tz28 nc26)), (show z28.toInt ≤ 1126 from (oz_f9387941a8 tz28 nc24 g5)), (show 0 ≤ z28.toInt → p0.toInt < (tf 5).toInt from (fun q9 => oz_9e62084ec1 tz14 nc26 e17)), (show 1000 ≤ z28.toInt → p0.toInt + 1 < (tf 5).toInt from (fun q9 => oz_5d4e957269 tz14 nc26 e17)), (show R_mp_character tf ta p0 p1 z28 from (Or.inl ⟨v2, e5, Or.inr ⟨nc6, z14, ez14, v16, e19, Or.inl ⟨nc20, Or.inl ⟨nc22, Or.inl ⟨nc24, Or.inl ⟨nc26, z28, ez28, rfl⟩⟩⟩⟩⟩⟩))⟩) d_Mpg_character_80 | (exact px_iret (v := z28) S hr rfl hlk hAe hw (Nat.le_of_ble_eq_true rfl) (Nat.le_of_ble_eq_true rfl) (⟨rfl, (show -1 ≤ z28.toInt from by first | exact oz_aafb056208 tz28 nc26 | omega), (show z28.toInt ≤ 1126 from by first | exact oz_f9387941a8 tz28 nc24 g5 | omega), (show 0 ≤ z28.toInt → p0.toInt < (tf 5).toInt from by first | exact fun q9 => oz_9e62084ec1 tz14 nc26 e17 | omega), (show 1000 ≤ z28.toInt → p0.toInt + 1 < (tf 5).toInt from by first | exact fun q9 => oz_5d4e957269 tz14 nc26 e17 | omega), (show R_mp_character tf ta p0 p1 z28 from (Or.inl ⟨v2, e5, Or.inr ⟨nc6, z14, ez14, v16, e19, Or.inl ⟨nc20, Or.inl ⟨nc22, Or.inl ⟨nc24, Or.inl ⟨nc26, z28, ez28, rfl⟩⟩⟩⟩⟩⟩))⟩) d_Mpg_character_80)
          · have nc26 : ¬ (0 : Int) ≤ v16.toInt := mt (i_le (x := 0) (y := v16)).mpr c26
            refine lv_iconst (v := (-1)) S.x S.b d_Mpg_character_70 (by decide) ?_
            refine lv_goto (tgt := 80) S.x S.b d_Mpg_character_71 (by decide) ?_
            first | exact px_iret (v := (-1)) S hr rfl hlk hAe hw (Nat.le_of_ble_eq_true rfl) (Nat.le_of_ble_eq_true rfl) (⟨rfl, (show -1 ≤ (-1 : Int) from oz_268d846349), (show (-1 : Int) ≤ 1126 from oz_dab224bb71), (show 0 ≤ (-1 : Int) → p0.toInt < (tf 5).toInt from by omega), (show 1000 ≤ (-1 : Int) → p0.toInt + 1 < (tf 5).toInt from by omega), (show R_mp_character tf ta p0 p1 (-1 : Int32) from (Or.inl ⟨v2, e5, Or.inr ⟨nc6, z14, ez14, v16, e19, Or.inl ⟨nc20, Or.inl ⟨nc22, Or.inl ⟨nc24, Or.inr ⟨nc26, rfl⟩⟩⟩⟩⟩⟩))⟩) d_Mpg_character_80 | (exact px_iret (v := (-1)) S hr rfl hlk hAe hw (Nat.le_of_ble_eq_true rfl) (Nat.le_of_ble_eq_true rfl) (⟨rfl, (show -1 ≤ (-1 : Int) from by first | exact oz_268d846349 | omega), (show (-1 : Int) ≤ 1126 from by first | exact oz_dab224bb71 | omega), (show 0 ≤ (-1 : Int) → p0.toInt < (tf 5).toInt from by omega), (show 1000 ≤ (-1 : Int) → p0.toInt + 1 < (tf 5).toInt from by omega), (show R_mp_character tf ta p0 p1 (-1 : Int32) from (Or.inl ⟨v2, e5, Or.inr ⟨nc6, z14, ez14, v16, e19, Or.inl ⟨nc20, Or.inl ⟨nc22, Or.inl ⟨nc24, Or.inr ⟨nc26, rfl⟩⟩⟩⟩⟩⟩))⟩) d_Mpg_character_80)
        · have nc24 : ¬ v16.toInt = p1.toInt := mt (i_eq (x := v16) (y := p1)).mpr c24
          refine lv_iload S.x S.b d_Mpg_character_50 (lv_at hl 0 rfl) ?_
          refine lv_bipush (v := 92) S.x S.b d_Mpg_character_52 (by decide) ?_
          refine lv_icmp_ne (tgt := 62) S.x S.b d_Mpg_character_54 (by decide) (fun c29 => ?_) (fun c29 => ?_)
          · have nc29 : ¬ v16.toInt = (92 : Int) := mt (i_eq (x := v16) (y := 92)).mpr c29
            refine lv_iconst (v := (-1)) S.x S.b d_Mpg_character_62 (by decide) ?_
            refine lv_istore (lv' := [(5, .int (-1)), (4, .int v16), (3, .int v2), (0, .ref h), (1, .int p0), (2, .int p1)]) S.x S.b d_Mpg_character_63 hl (by decide) rfl (fun ls hl => ?_)
            refine lv_iload S.x S.b d_Mpg_character_65 (lv_at hl 0 rfl) ?_
            refine lv_if_ge (tgt := 74) S.x S.b d_Mpg_character_67 (by decide) (fun c31 => ?_) (fun c31 => ?_)
            · exact absurd c31 (by decide)
            ·
              refine lv_iconst (v := (-1)) S.x S.b d_Mpg_character_70 (by decide) ?_
              refine lv_goto (tgt := 80) S.x S.b d_Mpg_character_71 (by decide) ?_
              first | exact px_iret (v := (-1)) S hr rfl hlk hAe hw (Nat.le_of_ble_eq_true rfl) (Nat.le_of_ble_eq_true rfl) (⟨rfl, (show -1 ≤ (-1 : Int) from oz_268d846349), (show (-1 : Int) ≤ 1126 from oz_dab224bb71), (show 0 ≤ (-1 : Int) → p0.toInt < (tf 5).toInt from by omega), (show 1000 ≤ (-1 : Int) → p0.toInt + 1 < (tf 5).toInt from by omega), (show R_mp_character tf ta p0 p1 (-1 : Int32) from (Or.inl ⟨v2, e5, Or.inr ⟨nc6, z14, ez14, v16, e19, Or.inl ⟨nc20, Or.inl ⟨nc22, Or.inr ⟨nc24, Or.inl ⟨nc29, rfl⟩⟩⟩⟩⟩⟩))⟩) d_Mpg_character_80 | (exact px_iret (v := (-1)) S hr rfl hlk hAe hw (Nat.le_of_ble_eq_true rfl) (Nat.le_of_ble_eq_true rfl) (⟨rfl, (show -1 ≤ (-1 : Int) from by first | exact oz_268d846349 | omega), (show (-1 : Int) ≤ 1126 from by first | exact oz_dab224bb71 | omega), (show 0 ≤ (-1 : Int) → p0.toInt < (tf 5).toInt from by omega), (show 1000 ≤ (-1 : Int) → p0.toInt + 1 < (tf 5).toInt from by omega), (show R_mp_character tf ta p0 p1 (-1 : Int32) from (Or.inl ⟨v2, e5, Or.inr ⟨nc6, z14, ez14, v16, e19, Or.inl ⟨nc20, Or.inl ⟨nc22, Or.inr ⟨nc24, Or.inl ⟨nc29, rfl⟩⟩⟩⟩⟩⟩))⟩) d_Mpg_character_80)
          · have nc29 : v16.toInt = (92 : Int) := (i_eq (x := v16) (y := 92)).mp c29
            refine lv_iload S.x S.b d_Mpg_character_57 (lv_at hl 0 rfl) ?_
            refine lv_goto (tgt := 63) S.x S.b d_Mpg_character_59 (by decide) ?_
            refine lv_istore (lv' := [(5, .int v16), (4, .int v16), (3, .int v2), (0, .ref h), (1, .int p0), (2, .int p1)]) S.x S.b d_Mpg_character_63 hl (by decide) rfl (fun ls hl => ?_)
            refine lv_iload S.x S.b d_Mpg_character_65 (lv_at hl 0 rfl) ?_
            refine lv_if_ge (tgt := 74) S.x S.b d_Mpg_character_67 (by decide) (fun c32 => ?_) (fun c32 => ?_)
            · have nc32 : (0 : Int) ≤ v16.toInt := (i_le (x := 0) (y := v16)).mp c32
              refine lv_iload S.x S.b d_Mpg_character_74 (lv_at hl 0 rfl) ?_
              refine lv_sipush (v := 1000) S.x S.b d_Mpg_character_76 (by decide) ?_
              refine lv_iadd S.x S.b d_Mpg_character_79 ?_
              refine lv_topi (fun z34 ez34 => ?_)
              have tz34 : z34.toInt = (v16.toInt + (1000 : Int) + 2147483648) % 4294967296 - 2147483648 := by rw [ez34]; exact i_add v16 1000
              have lz34 := Int32.le_toInt z34
              have uz34 := Int32.toInt_lt z34
              try replace tz34 : z34.toInt = v16.toInt + (1000 : Int) := by omega
              first | exact px_iret (v := z34) S hr rfl hlk hAe hw (Nat.le_of_ble_eq_true rfl) (Nat.le_of_ble_eq_true rfl) (⟨rfl, (show -1 ≤ z34.toInt from (oz_aafb056208 tz34 nc32)), (show z34.toInt ≤ 1126 from (oz_733703a624 tz34 nc29)), (show 0 ≤ z34.toInt → p0.toInt < (tf 5).toInt from (fun q9 => oz_c05fb31a7b tz14 nc29 e17)), (show 1000 ≤ z34.toInt → p0.toInt + 1 < (tf 5).toInt from (fun q9 => oz_43ddf3bdef tz14 nc29 e17)), (show R_mp_character tf ta p0 p1 z34 from (Or.inl ⟨v2, e5, Or.inr ⟨nc6, z14, ez14, v16, e19, Or.inl ⟨nc20, Or.inl ⟨nc22, Or.inr ⟨nc24, Or.inr ⟨nc29, Or.inl ⟨nc32, z34, ez34, rfl⟩⟩⟩⟩⟩⟩⟩))⟩) d_Mpg_character_80 | (exact px_iret (v := z34) S hr rfl hlk hAe hw (Nat.le_of_ble_eq_true rfl) (Nat.le_of_ble_eq_true rfl) (⟨rfl, (show -1 ≤ z34.toInt from by first | exact oz_aafb056208 tz34 nc32 | omega), (show z34.toInt ≤ 1126 from by first | exact oz_733703a624 tz34 nc29 | omega), (show 0 ≤ z34.toInt → p0.toInt < (tf 5).toInt from by first | exact fun q9 => oz_c05fb31a7b tz14 nc29 e17 | omega), (show 1000 ≤ z34.toInt → p0.toInt + 1 < (tf 5).toInt from by first | exact fun q9 => oz_43ddf3bdef tz14 nc29 e17 | omega), (show R_mp_character tf ta p0 p1 z34 from (Or.inl ⟨v2, e5, Or.inr ⟨nc6, z14, ez14, v16, e19, Or.inl ⟨nc20, Or.inl ⟨nc22, Or.inr ⟨nc24, Or.inr ⟨nc29, Or.inl ⟨nc32, z34, ez34, rfl⟩⟩⟩⟩⟩⟩⟩))⟩) d_Mpg_character_80)
            · have nc32 : ¬ (0 : Int) ≤ v16.toInt := mt (i_le (x := 0) (y := v16)).mpr c32
              refine lv_iconst (v := (-1)) S.x S.b d_Mpg_character_70 (by decide) ?_
              refine lv_goto (tgt := 80) S.x S.b d_Mpg_character_71 (by decide) ?_
              first | exact px_iret (v := (-1)) S hr rfl hlk hAe hw (Nat.le_of_ble_eq_true rfl) (Nat.le_of_ble_eq_true rfl) (⟨rfl, (show -1 ≤ (-1 : Int) from oz_268d846349), (show (-1 : Int) ≤ 1126 from oz_dab224bb71), (show 0 ≤ (-1 : Int) → p0.toInt < (tf 5).toInt from by omega), (show 1000 ≤ (-1 : Int) → p0.toInt + 1 < (tf 5).toInt from by omega), (show R_mp_character tf ta p0 p1 (-1 : Int32) from (Or.inl ⟨v2, e5, Or.inr ⟨nc6, z14, ez14, v16, e19, Or.inl ⟨nc20, Or.inl ⟨nc22, Or.inr ⟨nc24, Or.inr ⟨nc29, Or.inr ⟨nc32, rfl⟩⟩⟩⟩⟩⟩⟩))⟩) d_Mpg_character_80 | (exact px_iret (v := (-1)) S hr rfl hlk hAe hw (Nat.le_of_ble_eq_true rfl) (Nat.le_of_ble_eq_true rfl) (⟨rfl, (show -1 ≤ (-1 : Int) from by first | exact oz_268d846349 | omega), (show (-1 : Int) ≤ 1126 from by first | exact oz_dab224bb71 | omega), (show 0 ≤ (-1 : Int) → p0.toInt < (tf 5).toInt from by omega), (show 1000 ≤ (-1 : Int) → p0.toInt + 1 < (tf 5).toInt from by omega), (show R_mp_character tf ta p0 p1 (-1 : Int32) from (Or.inl ⟨v2, e5, Or.inr ⟨nc6, z14, ez14, v16, e19, Or.inl ⟨nc20, Or.inl ⟨nc22, Or.inr ⟨nc24, Or.inr ⟨nc29, Or.inr ⟨nc32, rfl⟩⟩⟩⟩⟩⟩⟩))⟩) d_Mpg_character_80)
      · have nc22 : v16.toInt = (48 : Int) := (i_eq (x := v16) (y := 48)).mp c22
        refine lv_iconst (v := 0) S.x S.b d_Mpg_character_40 (by decide) ?_
        refine lv_goto (tgt := 63) S.x S.b d_Mpg_character_41 (by decide) ?_
        refine lv_istore (lv' := [(5, .int 0), (4, .int v16), (3, .int v2), (0, .ref h), (1, .int p0), (2, .int p1)]) S.x S.b d_Mpg_character_63 hl (by decide) rfl (fun ls hl => ?_)
        refine lv_iload S.x S.b d_Mpg_character_65 (lv_at hl 0 rfl) ?_
        refine lv_if_ge (tgt := 74) S.x S.b d_Mpg_character_67 (by decide) (fun c35 => ?_) (fun c35 => ?_)
        ·
          refine lv_iload S.x S.b d_Mpg_character_74 (lv_at hl 0 rfl) ?_
          refine lv_sipush (v := 1000) S.x S.b d_Mpg_character_76 (by decide) ?_
          refine lv_iadd S.x S.b d_Mpg_character_79 ?_
          refine lv_topi (fun z36 ez36 => ?_)
          have tz36 : z36.toInt = ((0 : Int) + (1000 : Int) + 2147483648) % 4294967296 - 2147483648 := by rw [ez36]; exact i_add 0 1000
          have lz36 := Int32.le_toInt z36
          have uz36 := Int32.toInt_lt z36
          try replace tz36 : z36.toInt = (0 : Int) + (1000 : Int) := by omega
          first | exact px_iret (v := z36) S hr rfl hlk hAe hw (Nat.le_of_ble_eq_true rfl) (Nat.le_of_ble_eq_true rfl) (⟨rfl, (show -1 ≤ z36.toInt from (oz_b486be3c5d tz36)), (show z36.toInt ≤ 1126 from (oz_58bcf8c8e6 tz36)), (show 0 ≤ z36.toInt → p0.toInt < (tf 5).toInt from (fun q9 => oz_69663cae9c tz14 nc22 e17)), (show 1000 ≤ z36.toInt → p0.toInt + 1 < (tf 5).toInt from (fun q9 => oz_14689e2637 tz14 nc22 e17)), (show R_mp_character tf ta p0 p1 z36 from (Or.inl ⟨v2, e5, Or.inr ⟨nc6, z14, ez14, v16, e19, Or.inl ⟨nc20, Or.inr ⟨nc22, z36, ez36, rfl⟩⟩⟩⟩))⟩) d_Mpg_character_80 | (exact px_iret (v := z36) S hr rfl hlk hAe hw (Nat.le_of_ble_eq_true rfl) (Nat.le_of_ble_eq_true rfl) (⟨rfl, (show -1 ≤ z36.toInt from by first | exact oz_b486be3c5d tz36 | omega), (show z36.toInt ≤ 1126 from by first | exact oz_58bcf8c8e6 tz36 | omega), (show 0 ≤ z36.toInt → p0.toInt < (tf 5).toInt from by first | exact fun q9 => oz_69663cae9c tz14 nc22 e17 | omega), (show 1000 ≤ z36.toInt → p0.toInt + 1 < (tf 5).toInt from by first | exact fun q9 => oz_14689e2637 tz14 nc22 e17 | omega), (show R_mp_character tf ta p0 p1 z36 from (Or.inl ⟨v2, e5, Or.inr ⟨nc6, z14, ez14, v16, e19, Or.inl ⟨nc20, Or.inr ⟨nc22, z36, ez36, rfl⟩⟩⟩⟩))⟩) d_Mpg_character_80)
        · exact absurd c35 (by decide)
    · have nc20 : v16.toInt = (110 : Int) := (i_eq (x := v16) (y := 110)).mp c20
      refine lv_bipush (v := 10) S.x S.b d_Mpg_character_28 (by decide) ?_
      refine lv_goto (tgt := 63) S.x S.b d_Mpg_character_30 (by decide) ?_
      refine lv_istore (lv' := [(5, .int 10), (4, .int v16), (3, .int v2), (0, .ref h), (1, .int p0), (2, .int p1)]) S.x S.b d_Mpg_character_63 hl (by decide) rfl (fun ls hl => ?_)
      refine lv_iload S.x S.b d_Mpg_character_65 (lv_at hl 0 rfl) ?_
      refine lv_if_ge (tgt := 74) S.x S.b d_Mpg_character_67 (by decide) (fun c37 => ?_) (fun c37 => ?_)
      ·
        refine lv_iload S.x S.b d_Mpg_character_74 (lv_at hl 0 rfl) ?_
        refine lv_sipush (v := 1000) S.x S.b d_Mpg_character_76 (by decide) ?_
        refine lv_iadd S.x S.b d_Mpg_character_79 ?_
        refine lv_topi (fun z38 ez38 => ?_)
        have tz38 : z38.toInt = ((10 : Int) + (1000 : Int) + 2147483648) % 4294967296 - 2147483648 := by rw [ez38]; exact i_add 10 1000
        have lz38 := Int32.le_toInt z38
        have uz38 := Int32.toInt_lt z38
        try replace tz38 : z38.toInt = (10 : Int) + (1000 : Int) := by omega
        first | exact px_iret (v := z38) S hr rfl hlk hAe hw (Nat.le_of_ble_eq_true rfl) (Nat.le_of_ble_eq_true rfl) (⟨rfl, (show -1 ≤ z38.toInt from (oz_74d7af5635 tz38)), (show z38.toInt ≤ 1126 from (oz_3af861a7fc tz38)), (show 0 ≤ z38.toInt → p0.toInt < (tf 5).toInt from (fun q9 => oz_2d5a24c297 tz14 nc20 e17)), (show 1000 ≤ z38.toInt → p0.toInt + 1 < (tf 5).toInt from (fun q9 => oz_73f89394a0 tz14 nc20 e17)), (show R_mp_character tf ta p0 p1 z38 from (Or.inl ⟨v2, e5, Or.inr ⟨nc6, z14, ez14, v16, e19, Or.inr ⟨nc20, z38, ez38, rfl⟩⟩⟩))⟩) d_Mpg_character_80 | (exact px_iret (v := z38) S hr rfl hlk hAe hw (Nat.le_of_ble_eq_true rfl) (Nat.le_of_ble_eq_true rfl) (⟨rfl, (show -1 ≤ z38.toInt from by first | exact oz_74d7af5635 tz38 | omega), (show z38.toInt ≤ 1126 from by first | exact oz_3af861a7fc tz38 | omega), (show 0 ≤ z38.toInt → p0.toInt < (tf 5).toInt from by first | exact fun q9 => oz_2d5a24c297 tz14 nc20 e17 | omega), (show 1000 ≤ z38.toInt → p0.toInt + 1 < (tf 5).toInt from by first | exact fun q9 => oz_73f89394a0 tz14 nc20 e17 | omega), (show R_mp_character tf ta p0 p1 z38 from (Or.inl ⟨v2, e5, Or.inr ⟨nc6, z14, ez14, v16, e19, Or.inr ⟨nc20, z38, ez38, rfl⟩⟩⟩))⟩) d_Mpg_character_80)
      · exact absurd c37 (by decide)
abbrev b_Mpg_token : ByteArray := prog_16_method_8_code
def y_Mpg_token : MethodName := ⟨"HomeSystemModel$Program", "token", "(IIII)V"⟩
theorem d_Mpg_token_0 : decode b_Mpg_token 0 = .ok (.aload_n 0, 1) := by decide +kernel
theorem d_Mpg_token_1 : decode b_Mpg_token 1 = .ok (.getfield 194, 3) := by decide +kernel
theorem d_Mpg_token_4 : decode b_Mpg_token 4 = .ok (.aload_n 0, 1) := by decide +kernel
theorem d_Mpg_token_5 : decode b_Mpg_token 5 = .ok (.getfield 304, 3) := by decide +kernel
theorem d_Mpg_token_8 : decode b_Mpg_token 8 = .ok (.iload_n 1, 1) := by decide +kernel
theorem d_Mpg_token_9 : decode b_Mpg_token 9 = .ok (.iastore, 1) := by decide +kernel
theorem d_Mpg_token_10 : decode b_Mpg_token 10 = .ok (.aload_n 0, 1) := by decide +kernel
theorem d_Mpg_token_11 : decode b_Mpg_token 11 = .ok (.getfield 198, 3) := by decide +kernel
theorem d_Mpg_token_14 : decode b_Mpg_token 14 = .ok (.aload_n 0, 1) := by decide +kernel
theorem d_Mpg_token_15 : decode b_Mpg_token 15 = .ok (.getfield 304, 3) := by decide +kernel
theorem d_Mpg_token_18 : decode b_Mpg_token 18 = .ok (.iload_n 2, 1) := by decide +kernel
theorem d_Mpg_token_19 : decode b_Mpg_token 19 = .ok (.iastore, 1) := by decide +kernel
theorem d_Mpg_token_20 : decode b_Mpg_token 20 = .ok (.aload_n 0, 1) := by decide +kernel
theorem d_Mpg_token_21 : decode b_Mpg_token 21 = .ok (.getfield 201, 3) := by decide +kernel
theorem d_Mpg_token_24 : decode b_Mpg_token 24 = .ok (.aload_n 0, 1) := by decide +kernel
theorem d_Mpg_token_25 : decode b_Mpg_token 25 = .ok (.getfield 304, 3) := by decide +kernel
theorem d_Mpg_token_28 : decode b_Mpg_token 28 = .ok (.iload_n 3, 1) := by decide +kernel
theorem d_Mpg_token_29 : decode b_Mpg_token 29 = .ok (.i2b, 1) := by decide +kernel
theorem d_Mpg_token_30 : decode b_Mpg_token 30 = .ok (.bastore, 1) := by decide +kernel
theorem d_Mpg_token_31 : decode b_Mpg_token 31 = .ok (.aload_n 0, 1) := by decide +kernel
theorem d_Mpg_token_32 : decode b_Mpg_token 32 = .ok (.getfield 204, 3) := by decide +kernel
theorem d_Mpg_token_35 : decode b_Mpg_token 35 = .ok (.aload_n 0, 1) := by decide +kernel
theorem d_Mpg_token_36 : decode b_Mpg_token 36 = .ok (.getfield 304, 3) := by decide +kernel
theorem d_Mpg_token_39 : decode b_Mpg_token 39 = .ok (.iload 4, 2) := by decide +kernel
theorem d_Mpg_token_41 : decode b_Mpg_token 41 = .ok (.iastore, 1) := by decide +kernel
theorem d_Mpg_token_42 : decode b_Mpg_token 42 = .ok (.aload_n 0, 1) := by decide +kernel
theorem d_Mpg_token_43 : decode b_Mpg_token 43 = .ok (.dup, 1) := by decide +kernel
theorem d_Mpg_token_44 : decode b_Mpg_token 44 = .ok (.getfield 304, 3) := by decide +kernel
theorem d_Mpg_token_47 : decode b_Mpg_token 47 = .ok (.iconst 1, 1) := by decide +kernel
theorem d_Mpg_token_48 : decode b_Mpg_token 48 = .ok (.iadd, 1) := by decide +kernel
theorem d_Mpg_token_49 : decode b_Mpg_token 49 = .ok (.putfield 304, 3) := by decide +kernel
theorem d_Mpg_token_52 : decode b_Mpg_token 52 = .ok (.return_, 1) := by decide +kernel
theorem q_Mpg_token : px_y y_Mpg_token 4 := by unfold px_y; decide +kernel
set_option maxHeartbeats 4000000 in
set_option maxRecDepth 100000 in
theorem c_mp_token (l : Launch) (D : va_G) (cs : Nat → ClassId) (h : Nat) (r : Nat → Nat) (g : Nat → Nat → Option Nat) (pf : Nat → Int32) (na : Nat → Nat → Int32) (ma : Nat → Nat → Int32) (wa : Nat → Nat → Int32) (cf : Nat → Int32) (ca : Nat → Nat → Int32) (ef : Nat → Int32) (ea : Nat → Nat → Int32) (xf : Nat → Int32) (xa : Nat → Nat → Int32) (tf : Nat → Int32) (ta : Nat → Nat → Int32) (p0 p1 p2 p3 : Int32)  (g0 : 0 ≤ (tf 6).toInt) (g1 : (tf 6).toInt ≤ 2059) : MetV l y_Mpg_token b_Mpg_token 5 D cs 0 0 (0) (0) [.ref h, .int p0, .int p1, .int p2, .int p3] [wdP cs h r g tf ta pf na ma wa cf ca ef ea xf xa] (fun _ => True) (fun ps => ∃ (tf' : Nat → Int32) (ta' : Nat → Nat → Int32), (ps = [wdP cs h r g tf' ta' pf na ma wa cf ca ef ea xf xa]) ∧ ((tf' 6).toInt = (tf 6).toInt + 1) ∧ ((tf' 5).toInt = (tf 5).toInt) ∧ (TkU ta ta' (tf 6) p0 p1 p2 p3) ∧ (R_mp_token p0 p1 p2 p3 tf ta tf' ta')) := by
  refine px_enter (by decide) (Nat.le_of_ble_eq_true rfl) ?_
  intro p e s m below meth c A ls hAe S hr hlk hnm hA hT hX hw hl
  have hl : lv_has ls 5 [(0, .ref h), (1, .int p0), (2, .int p1), (3, .int p2), (4, .int p3)] := hl
  have lp0 := Int32.le_toInt p0
  have up0 := Int32.toInt_lt p0
  have lp1 := Int32.le_toInt p1
  have up1 := Int32.toInt_lt p1
  have lp2 := Int32.le_toInt p2
  have up2 := Int32.toInt_lt p2
  have lp3 := Int32.le_toInt p3
  have up3 := Int32.toInt_lt p3
  have cst1 : (1 : Int32).toInt = 1 := rfl
  refine lv_aload_n S.x S.b d_Mpg_token_0 rfl (lv_at hl 0 rfl) ?_
  refine gP_7 S hT hw 0 rfl m9_231 d_Mpg_token_1 ?_
  refine lv_aload_n S.x S.b d_Mpg_token_4 rfl (lv_at hl 0 rfl) ?_
  refine gP_6 (v := (tf 6)) S hT hw 0 rfl rfl m9_230 d_Mpg_token_5 ?_
  refine lv_iload_n S.x S.b d_Mpg_token_8 rfl (lv_at hl 1 rfl) ?_
  refine px_iast S hT hw 0 6 (n := 2060) (f := (ta 7)) (x := (tf 6)) (y := p0) rfl gp_7 (vp_in_iff.mpr (by constructor <;> omega)) d_Mpg_token_9 (w' := wdP cs h r g tf (va_up ta 7 (upd (ta 7) (tf 6).toNatClampNeg p0)) pf na ma wa cf ca ef ea xf xa) (ps' := [wdP cs h r g tf (va_up ta 7 (upd (ta 7) (tf 6).toNatClampNeg p0)) pf na ma wa cf ca ef ea xf xa]) sp_7 rfl (fun H locs hw => ?_)
  refine lv_aload_n S.x S.b d_Mpg_token_10 rfl (lv_at hl 0 rfl) ?_
  refine gP_8 S hT hw 0 rfl m9_232 d_Mpg_token_11 ?_
  refine lv_aload_n S.x S.b d_Mpg_token_14 rfl (lv_at hl 0 rfl) ?_
  refine gP_6 (v := (tf 6)) S hT hw 0 rfl rfl m9_230 d_Mpg_token_15 ?_
  refine lv_iload_n S.x S.b d_Mpg_token_18 rfl (lv_at hl 2 rfl) ?_
  refine px_iast S hT hw 0 7 (n := 2060) (f := ((va_up ta 7 (upd (ta 7) (tf 6).toNatClampNeg p0)) 8)) (x := (tf 6)) (y := p1) rfl gp_8 (vp_in_iff.mpr (by constructor <;> omega)) d_Mpg_token_19 (w' := wdP cs h r g tf (va_up (va_up ta 7 (upd (ta 7) (tf 6).toNatClampNeg p0)) 8 (upd ((va_up ta 7 (upd (ta 7) (tf 6).toNatClampNeg p0)) 8) (tf 6).toNatClampNeg p1)) pf na ma wa cf ca ef ea xf xa) (ps' := [wdP cs h r g tf (va_up (va_up ta 7 (upd (ta 7) (tf 6).toNatClampNeg p0)) 8 (upd ((va_up ta 7 (upd (ta 7) (tf 6).toNatClampNeg p0)) 8) (tf 6).toNatClampNeg p1)) pf na ma wa cf ca ef ea xf xa]) sp_8 rfl (fun H locs hw => ?_)
  refine lv_aload_n S.x S.b d_Mpg_token_20 rfl (lv_at hl 0 rfl) ?_
  refine gP_9 S hT hw 0 rfl m9_233 d_Mpg_token_21 ?_
  refine lv_aload_n S.x S.b d_Mpg_token_24 rfl (lv_at hl 0 rfl) ?_
  refine gP_6 (v := (tf 6)) S hT hw 0 rfl rfl m9_230 d_Mpg_token_25 ?_
  refine lv_iload_n S.x S.b d_Mpg_token_28 rfl (lv_at hl 3 rfl) ?_
  refine lv_i2b S.x S.b d_Mpg_token_29 rfl ?_
  refine lv_topi (fun z1 ez1 => ?_)
  have lz1 := Int32.le_toInt z1
  have uz1 := Int32.toInt_lt z1
  refine px_bast S hT hw 0 8 (n := 2060) (f := ((va_up (va_up ta 7 (upd (ta 7) (tf 6).toNatClampNeg p0)) 8 (upd ((va_up ta 7 (upd (ta 7) (tf 6).toNatClampNeg p0)) 8) (tf 6).toNatClampNeg p1)) 9)) (x := (tf 6)) (y := z1) rfl gp_9 (vp_in_iff.mpr (by constructor <;> omega)) d_Mpg_token_30 (w' := wdP cs h r g tf (va_up (va_up (va_up ta 7 (upd (ta 7) (tf 6).toNatClampNeg p0)) 8 (upd ((va_up ta 7 (upd (ta 7) (tf 6).toNatClampNeg p0)) 8) (tf 6).toNatClampNeg p1)) 9 (upd ((va_up (va_up ta 7 (upd (ta 7) (tf 6).toNatClampNeg p0)) 8 (upd ((va_up ta 7 (upd (ta 7) (tf 6).toNatClampNeg p0)) 8) (tf 6).toNatClampNeg p1)) 9) (tf 6).toNatClampNeg (vp_nar .byte z1))) pf na ma wa cf ca ef ea xf xa) (ps' := [wdP cs h r g tf (va_up (va_up (va_up ta 7 (upd (ta 7) (tf 6).toNatClampNeg p0)) 8 (upd ((va_up ta 7 (upd (ta 7) (tf 6).toNatClampNeg p0)) 8) (tf 6).toNatClampNeg p1)) 9 (upd ((va_up (va_up ta 7 (upd (ta 7) (tf 6).toNatClampNeg p0)) 8 (upd ((va_up ta 7 (upd (ta 7) (tf 6).toNatClampNeg p0)) 8) (tf 6).toNatClampNeg p1)) 9) (tf 6).toNatClampNeg (vp_nar .byte z1))) pf na ma wa cf ca ef ea xf xa]) sp_9 rfl (fun H locs hw => ?_)
  refine lv_aload_n S.x S.b d_Mpg_token_31 rfl (lv_at hl 0 rfl) ?_
  refine gP_10 S hT hw 0 rfl m9_234 d_Mpg_token_32 ?_
  refine lv_aload_n S.x S.b d_Mpg_token_35 rfl (lv_at hl 0 rfl) ?_
  refine gP_6 (v := (tf 6)) S hT hw 0 rfl rfl m9_230 d_Mpg_token_36 ?_
  refine lv_iload S.x S.b d_Mpg_token_39 (lv_at hl 4 rfl) ?_
  refine px_iast S hT hw 0 9 (n := 2060) (f := ((va_up (va_up (va_up ta 7 (upd (ta 7) (tf 6).toNatClampNeg p0)) 8 (upd ((va_up ta 7 (upd (ta 7) (tf 6).toNatClampNeg p0)) 8) (tf 6).toNatClampNeg p1)) 9 (upd ((va_up (va_up ta 7 (upd (ta 7) (tf 6).toNatClampNeg p0)) 8 (upd ((va_up ta 7 (upd (ta 7) (tf 6).toNatClampNeg p0)) 8) (tf 6).toNatClampNeg p1)) 9) (tf 6).toNatClampNeg (vp_nar .byte z1))) 10)) (x := (tf 6)) (y := p3) rfl gp_10 (vp_in_iff.mpr (by constructor <;> omega)) d_Mpg_token_41 (w' := wdP cs h r g tf (va_up (va_up (va_up (va_up ta 7 (upd (ta 7) (tf 6).toNatClampNeg p0)) 8 (upd ((va_up ta 7 (upd (ta 7) (tf 6).toNatClampNeg p0)) 8) (tf 6).toNatClampNeg p1)) 9 (upd ((va_up (va_up ta 7 (upd (ta 7) (tf 6).toNatClampNeg p0)) 8 (upd ((va_up ta 7 (upd (ta 7) (tf 6).toNatClampNeg p0)) 8) (tf 6).toNatClampNeg p1)) 9) (tf 6).toNatClampNeg (vp_nar .byte z1))) 10 (upd ((va_up (va_up (va_up ta 7 (upd (ta 7) (tf 6).toNatClampNeg p0)) 8 (upd ((va_up ta 7 (upd (ta 7) (tf 6).toNatClampNeg p0)) 8) (tf 6).toNatClampNeg p1)) 9 (upd ((va_up (va_up ta 7 (upd (ta 7) (tf 6).toNatClampNeg p0)) 8 (upd ((va_up ta 7 (upd (ta 7) (tf 6).toNatClampNeg p0)) 8) (tf 6).toNatClampNeg p1)) 9) (tf 6).toNatClampNeg (vp_nar .byte z1))) 10) (tf 6).toNatClampNeg p3)) pf na ma wa cf ca ef ea xf xa) (ps' := [wdP cs h r g tf (va_up (va_up (va_up (va_up ta 7 (upd (ta 7) (tf 6).toNatClampNeg p0)) 8 (upd ((va_up ta 7 (upd (ta 7) (tf 6).toNatClampNeg p0)) 8) (tf 6).toNatClampNeg p1)) 9 (upd ((va_up (va_up ta 7 (upd (ta 7) (tf 6).toNatClampNeg p0)) 8 (upd ((va_up ta 7 (upd (ta 7) (tf 6).toNatClampNeg p0)) 8) (tf 6).toNatClampNeg p1)) 9) (tf 6).toNatClampNeg (vp_nar .byte z1))) 10 (upd ((va_up (va_up (va_up ta 7 (upd (ta 7) (tf 6).toNatClampNeg p0)) 8 (upd ((va_up ta 7 (upd (ta 7) (tf 6).toNatClampNeg p0)) 8) (tf 6).toNatClampNeg p1)) 9 (upd ((va_up (va_up ta 7 (upd (ta 7) (tf 6).toNatClampNeg p0)) 8 (upd ((va_up ta 7 (upd (ta 7) (tf 6).toNatClampNeg p0)) 8) (tf 6).toNatClampNeg p1)) 9) (tf 6).toNatClampNeg (vp_nar .byte z1))) 10) (tf 6).toNatClampNeg p3)) pf na ma wa cf ca ef ea xf xa]) sp_10 rfl (fun H locs hw => ?_)
  refine lv_aload_n S.x S.b d_Mpg_token_42 rfl (lv_at hl 0 rfl) ?_
  refine lv_dup S.x S.b d_Mpg_token_43 rfl ?_
  refine gP_6 (v := (tf 6)) S hT hw 0 rfl rfl m9_230 d_Mpg_token_44 ?_
  refine lv_iconst (v := 1) S.x S.b d_Mpg_token_47 (by decide) ?_
  refine lv_iadd S.x S.b d_Mpg_token_48 ?_
  have lr2 := Int32.le_toInt (tf 6)
  have ur2 := Int32.toInt_lt (tf 6)
  refine lv_topi (fun z3 ez3 => ?_)
  have tz3 : z3.toInt = ((tf 6).toInt + (1 : Int) + 2147483648) % 4294967296 - 2147483648 := by rw [ez3]; exact i_add (tf 6) 1
  have lz3 := Int32.le_toInt z3
  have uz3 := Int32.toInt_lt z3
  try replace tz3 : z3.toInt = (tf 6).toInt + (1 : Int) := by omega
  refine pP_6 S hT hw 0 rfl m9_230 rfl rfl rfl d_Mpg_token_49 (ps' := [wdP cs h r g (upd tf 6 z3) (va_up (va_up (va_up (va_up ta 7 (upd (ta 7) (tf 6).toNatClampNeg p0)) 8 (upd ((va_up ta 7 (upd (ta 7) (tf 6).toNatClampNeg p0)) 8) (tf 6).toNatClampNeg p1)) 9 (upd ((va_up (va_up ta 7 (upd (ta 7) (tf 6).toNatClampNeg p0)) 8 (upd ((va_up ta 7 (upd (ta 7) (tf 6).toNatClampNeg p0)) 8) (tf 6).toNatClampNeg p1)) 9) (tf 6).toNatClampNeg (vp_nar .byte z1))) 10 (upd ((va_up (va_up (va_up ta 7 (upd (ta 7) (tf 6).toNatClampNeg p0)) 8 (upd ((va_up ta 7 (upd (ta 7) (tf 6).toNatClampNeg p0)) 8) (tf 6).toNatClampNeg p1)) 9 (upd ((va_up (va_up ta 7 (upd (ta 7) (tf 6).toNatClampNeg p0)) 8 (upd ((va_up ta 7 (upd (ta 7) (tf 6).toNatClampNeg p0)) 8) (tf 6).toNatClampNeg p1)) 9) (tf 6).toNatClampNeg (vp_nar .byte z1))) 10) (tf 6).toNatClampNeg p3)) pf na ma wa cf ca ef ea xf xa]) rfl (fun H locs hw => ?_)
  first | exact px_vret S hr hlk hAe hw (Nat.le_of_ble_eq_true rfl) (Nat.le_of_ble_eq_true rfl) (⟨(upd tf 6 z3), (va_up (va_up (va_up (va_up ta 7 (upd (ta 7) (tf 6).toNatClampNeg p0)) 8 (upd ((va_up ta 7 (upd (ta 7) (tf 6).toNatClampNeg p0)) 8) (tf 6).toNatClampNeg p1)) 9 (upd ((va_up (va_up ta 7 (upd (ta 7) (tf 6).toNatClampNeg p0)) 8 (upd ((va_up ta 7 (upd (ta 7) (tf 6).toNatClampNeg p0)) 8) (tf 6).toNatClampNeg p1)) 9) (tf 6).toNatClampNeg (vp_nar .byte z1))) 10 (upd ((va_up (va_up (va_up ta 7 (upd (ta 7) (tf 6).toNatClampNeg p0)) 8 (upd ((va_up ta 7 (upd (ta 7) (tf 6).toNatClampNeg p0)) 8) (tf 6).toNatClampNeg p1)) 9 (upd ((va_up (va_up ta 7 (upd (ta 7) (tf 6).toNatClampNeg p0)) 8 (upd ((va_up ta 7 (upd (ta 7) (tf 6).toNatClampNeg p0)) 8) (tf 6).toNatClampNeg p1)) 9) (tf 6).toNatClampNeg (vp_nar .byte z1))) 10) (tf 6).toNatClampNeg p3)), rfl, (show z3.toInt = (tf 6).toInt + 1 from (oz_037caa6b79 tz3)), (show (tf 5).toInt = (tf 5).toInt from rfl), (show TkU ta (va_up (va_up (va_up (va_up ta 7 (upd (ta 7) (tf 6).toNatClampNeg p0)) 8 (upd ((va_up ta 7 (upd (ta 7) (tf 6).toNatClampNeg p0)) 8) (tf 6).toNatClampNeg p1)) 9 (upd ((va_up (va_up ta 7 (upd (ta 7) (tf 6).toNatClampNeg p0)) 8 (upd ((va_up ta 7 (upd (ta 7) (tf 6).toNatClampNeg p0)) 8) (tf 6).toNatClampNeg p1)) 9) (tf 6).toNatClampNeg (vp_nar .byte z1))) 10 (upd ((va_up (va_up (va_up ta 7 (upd (ta 7) (tf 6).toNatClampNeg p0)) 8 (upd ((va_up ta 7 (upd (ta 7) (tf 6).toNatClampNeg p0)) 8) (tf 6).toNatClampNeg p1)) 9 (upd ((va_up (va_up ta 7 (upd (ta 7) (tf 6).toNatClampNeg p0)) 8 (upd ((va_up ta 7 (upd (ta 7) (tf 6).toNatClampNeg p0)) 8) (tf 6).toNatClampNeg p1)) 9) (tf 6).toNatClampNeg (vp_nar .byte z1))) 10) (tf 6).toNatClampNeg p3)) (tf 6) p0 p1 p2 p3 from tku_mk (by assumption)), (show R_mp_token p0 p1 p2 p3 tf ta (upd tf 6 z3) (va_up (va_up (va_up (va_up ta 7 (upd (ta 7) (tf 6).toNatClampNeg p0)) 8 (upd ((va_up ta 7 (upd (ta 7) (tf 6).toNatClampNeg p0)) 8) (tf 6).toNatClampNeg p1)) 9 (upd ((va_up (va_up ta 7 (upd (ta 7) (tf 6).toNatClampNeg p0)) 8 (upd ((va_up ta 7 (upd (ta 7) (tf 6).toNatClampNeg p0)) 8) (tf 6).toNatClampNeg p1)) 9) (tf 6).toNatClampNeg (vp_nar .byte z1))) 10 (upd ((va_up (va_up (va_up ta 7 (upd (ta 7) (tf 6).toNatClampNeg p0)) 8 (upd ((va_up ta 7 (upd (ta 7) (tf 6).toNatClampNeg p0)) 8) (tf 6).toNatClampNeg p1)) 9 (upd ((va_up (va_up ta 7 (upd (ta 7) (tf 6).toNatClampNeg p0)) 8 (upd ((va_up ta 7 (upd (ta 7) (tf 6).toNatClampNeg p0)) 8) (tf 6).toNatClampNeg p1)) 9) (tf 6).toNatClampNeg (vp_nar .byte z1))) 10) (tf 6).toNatClampNeg p3)) from (Or.inl ⟨z1, ez1, z3, ez3, rfl, rfl⟩))⟩) d_Mpg_token_52 | (exact px_vret S hr hlk hAe hw (Nat.le_of_ble_eq_true rfl) (Nat.le_of_ble_eq_true rfl) (⟨(upd tf 6 z3), (va_up (va_up (va_up (va_up ta 7 (upd (ta 7) (tf 6).toNatClampNeg p0)) 8 (upd ((va_up ta 7 (upd (ta 7) (tf 6).toNatClampNeg p0)) 8) (tf 6).toNatClampNeg p1)) 9 (upd ((va_up (va_up ta 7 (upd (ta 7) (tf 6).toNatClampNeg p0)) 8 (upd ((va_up ta 7 (upd (ta 7) (tf 6).toNatClampNeg p0)) 8) (tf 6).toNatClampNeg p1)) 9) (tf 6).toNatClampNeg (vp_nar .byte z1))) 10 (upd ((va_up (va_up (va_up ta 7 (upd (ta 7) (tf 6).toNatClampNeg p0)) 8 (upd ((va_up ta 7 (upd (ta 7) (tf 6).toNatClampNeg p0)) 8) (tf 6).toNatClampNeg p1)) 9 (upd ((va_up (va_up ta 7 (upd (ta 7) (tf 6).toNatClampNeg p0)) 8 (upd ((va_up ta 7 (upd (ta 7) (tf 6).toNatClampNeg p0)) 8) (tf 6).toNatClampNeg p1)) 9) (tf 6).toNatClampNeg (vp_nar .byte z1))) 10) (tf 6).toNatClampNeg p3)), rfl, (show z3.toInt = (tf 6).toInt + 1 from by first | exact oz_037caa6b79 tz3 | omega), (show (tf 5).toInt = (tf 5).toInt from rfl), (show TkU ta (va_up (va_up (va_up (va_up ta 7 (upd (ta 7) (tf 6).toNatClampNeg p0)) 8 (upd ((va_up ta 7 (upd (ta 7) (tf 6).toNatClampNeg p0)) 8) (tf 6).toNatClampNeg p1)) 9 (upd ((va_up (va_up ta 7 (upd (ta 7) (tf 6).toNatClampNeg p0)) 8 (upd ((va_up ta 7 (upd (ta 7) (tf 6).toNatClampNeg p0)) 8) (tf 6).toNatClampNeg p1)) 9) (tf 6).toNatClampNeg (vp_nar .byte z1))) 10 (upd ((va_up (va_up (va_up ta 7 (upd (ta 7) (tf 6).toNatClampNeg p0)) 8 (upd ((va_up ta 7 (upd (ta 7) (tf 6).toNatClampNeg p0)) 8) (tf 6).toNatClampNeg p1)) 9 (upd ((va_up (va_up ta 7 (upd (ta 7) (tf 6).toNatClampNeg p0)) 8 (upd ((va_up ta 7 (upd (ta 7) (tf 6).toNatClampNeg p0)) 8) (tf 6).toNatClampNeg p1)) 9) (tf 6).toNatClampNeg (vp_nar .byte z1))) 10) (tf 6).toNatClampNeg p3)) (tf 6) p0 p1 p2 p3 from tku_mk (by assumption)), (show R_mp_token p0 p1 p2 p3 tf ta (upd tf 6 z3) (va_up (va_up (va_up (va_up ta 7 (upd (ta 7) (tf 6).toNatClampNeg p0)) 8 (upd ((va_up ta 7 (upd (ta 7) (tf 6).toNatClampNeg p0)) 8) (tf 6).toNatClampNeg p1)) 9 (upd ((va_up (va_up ta 7 (upd (ta 7) (tf 6).toNatClampNeg p0)) 8 (upd ((va_up ta 7 (upd (ta 7) (tf 6).toNatClampNeg p0)) 8) (tf 6).toNatClampNeg p1)) 9) (tf 6).toNatClampNeg (vp_nar .byte z1))) 10 (upd ((va_up (va_up (va_up ta 7 (upd (ta 7) (tf 6).toNatClampNeg p0)) 8 (upd ((va_up ta 7 (upd (ta 7) (tf 6).toNatClampNeg p0)) 8) (tf 6).toNatClampNeg p1)) 9 (upd ((va_up (va_up ta 7 (upd (ta 7) (tf 6).toNatClampNeg p0)) 8 (upd ((va_up ta 7 (upd (ta 7) (tf 6).toNatClampNeg p0)) 8) (tf 6).toNatClampNeg p1)) 9) (tf 6).toNatClampNeg (vp_nar .byte z1))) 10) (tf 6).toNatClampNeg p3)) from (Or.inl ⟨z1, ez1, z3, ez3, rfl, rfl⟩))⟩) d_Mpg_token_52)
abbrev b_Mpg_skip : ByteArray := prog_16_method_6_code
def y_Mpg_skip : MethodName := ⟨"HomeSystemModel$Program", "skip", "(I)I"⟩
theorem d_Mpg_skip_0 : decode b_Mpg_skip 0 = .ok (.iload_n 1, 1) := by decide +kernel
theorem d_Mpg_skip_1 : decode b_Mpg_skip 1 = .ok (.istore_n 2, 1) := by decide +kernel
theorem d_Mpg_skip_2 : decode b_Mpg_skip 2 = .ok (.iconst 1, 1) := by decide +kernel
theorem d_Mpg_skip_3 : decode b_Mpg_skip 3 = .ok (.istore_n 3, 1) := by decide +kernel
theorem d_Mpg_skip_4 : decode b_Mpg_skip 4 = .ok (.iload_n 3, 1) := by decide +kernel
theorem d_Mpg_skip_5 : decode b_Mpg_skip 5 = .ok (.ifCond .eq 188, 3) := by decide +kernel
theorem d_Mpg_skip_8 : decode b_Mpg_skip 8 = .ok (.aload_n 0, 1) := by decide +kernel
theorem d_Mpg_skip_9 : decode b_Mpg_skip 9 = .ok (.iload_n 2, 1) := by decide +kernel
theorem d_Mpg_skip_10 : decode b_Mpg_skip 10 = .ok (.invokevirtual 300, 3) := by decide +kernel
theorem d_Mpg_skip_13 : decode b_Mpg_skip 13 = .ok (.istore 4, 2) := by decide +kernel
theorem d_Mpg_skip_15 : decode b_Mpg_skip 15 = .ok (.iload 4, 2) := by decide +kernel
theorem d_Mpg_skip_17 : decode b_Mpg_skip 17 = .ok (.bipush 32, 2) := by decide +kernel
theorem d_Mpg_skip_19 : decode b_Mpg_skip 19 = .ok (.if_icmp .eq 24, 3) := by decide +kernel
theorem d_Mpg_skip_22 : decode b_Mpg_skip 22 = .ok (.iload 4, 2) := by decide +kernel
theorem d_Mpg_skip_24 : decode b_Mpg_skip 24 = .ok (.bipush 9, 2) := by decide +kernel
theorem d_Mpg_skip_26 : decode b_Mpg_skip 26 = .ok (.if_icmp .eq 17, 3) := by decide +kernel
theorem d_Mpg_skip_29 : decode b_Mpg_skip 29 = .ok (.iload 4, 2) := by decide +kernel
theorem d_Mpg_skip_31 : decode b_Mpg_skip 31 = .ok (.bipush 10, 2) := by decide +kernel
theorem d_Mpg_skip_33 : decode b_Mpg_skip 33 = .ok (.if_icmp .eq 10, 3) := by decide +kernel
theorem d_Mpg_skip_36 : decode b_Mpg_skip 36 = .ok (.iload 4, 2) := by decide +kernel
theorem d_Mpg_skip_38 : decode b_Mpg_skip 38 = .ok (.bipush 13, 2) := by decide +kernel
theorem d_Mpg_skip_40 : decode b_Mpg_skip 40 = .ok (.if_icmp .ne 9, 3) := by decide +kernel
theorem d_Mpg_skip_43 : decode b_Mpg_skip 43 = .ok (.iinc 2 1, 3) := by decide +kernel
theorem d_Mpg_skip_46 : decode b_Mpg_skip 46 = .ok (.goto 144, 3) := by decide +kernel
theorem d_Mpg_skip_49 : decode b_Mpg_skip 49 = .ok (.iload 4, 2) := by decide +kernel
theorem d_Mpg_skip_51 : decode b_Mpg_skip 51 = .ok (.bipush 47, 2) := by decide +kernel
theorem d_Mpg_skip_53 : decode b_Mpg_skip 53 = .ok (.if_icmp .ne 40, 3) := by decide +kernel
theorem d_Mpg_skip_56 : decode b_Mpg_skip 56 = .ok (.aload_n 0, 1) := by decide +kernel
theorem d_Mpg_skip_57 : decode b_Mpg_skip 57 = .ok (.iload_n 2, 1) := by decide +kernel
theorem d_Mpg_skip_58 : decode b_Mpg_skip 58 = .ok (.iconst 1, 1) := by decide +kernel
theorem d_Mpg_skip_59 : decode b_Mpg_skip 59 = .ok (.iadd, 1) := by decide +kernel
theorem d_Mpg_skip_60 : decode b_Mpg_skip 60 = .ok (.invokevirtual 300, 3) := by decide +kernel
theorem d_Mpg_skip_63 : decode b_Mpg_skip 63 = .ok (.bipush 47, 2) := by decide +kernel
theorem d_Mpg_skip_65 : decode b_Mpg_skip 65 = .ok (.if_icmp .ne 28, 3) := by decide +kernel
theorem d_Mpg_skip_68 : decode b_Mpg_skip 68 = .ok (.iload_n 2, 1) := by decide +kernel
theorem d_Mpg_skip_69 : decode b_Mpg_skip 69 = .ok (.aload_n 0, 1) := by decide +kernel
theorem d_Mpg_skip_70 : decode b_Mpg_skip 70 = .ok (.getfield 292, 3) := by decide +kernel
theorem d_Mpg_skip_73 : decode b_Mpg_skip 73 = .ok (.if_icmp .ge 117, 3) := by decide +kernel
theorem d_Mpg_skip_76 : decode b_Mpg_skip 76 = .ok (.aload_n 0, 1) := by decide +kernel
theorem d_Mpg_skip_77 : decode b_Mpg_skip 77 = .ok (.getfield 190, 3) := by decide +kernel
theorem d_Mpg_skip_80 : decode b_Mpg_skip 80 = .ok (.iload_n 2, 1) := by decide +kernel
theorem d_Mpg_skip_81 : decode b_Mpg_skip 81 = .ok (.baload, 1) := by decide +kernel
theorem d_Mpg_skip_82 : decode b_Mpg_skip 82 = .ok (.bipush 10, 2) := by decide +kernel
theorem d_Mpg_skip_84 : decode b_Mpg_skip 84 = .ok (.if_icmp .eq 106, 3) := by decide +kernel
theorem d_Mpg_skip_87 : decode b_Mpg_skip 87 = .ok (.iinc 2 1, 3) := by decide +kernel
theorem d_Mpg_skip_90 : decode b_Mpg_skip 90 = .ok (.goto (-22), 3) := by decide +kernel
theorem d_Mpg_skip_93 : decode b_Mpg_skip 93 = .ok (.iload 4, 2) := by decide +kernel
theorem d_Mpg_skip_95 : decode b_Mpg_skip 95 = .ok (.bipush 47, 2) := by decide +kernel
theorem d_Mpg_skip_97 : decode b_Mpg_skip 97 = .ok (.if_icmp .ne 91, 3) := by decide +kernel
theorem d_Mpg_skip_100 : decode b_Mpg_skip 100 = .ok (.aload_n 0, 1) := by decide +kernel
theorem d_Mpg_skip_101 : decode b_Mpg_skip 101 = .ok (.iload_n 2, 1) := by decide +kernel
theorem d_Mpg_skip_102 : decode b_Mpg_skip 102 = .ok (.iconst 1, 1) := by decide +kernel
theorem d_Mpg_skip_103 : decode b_Mpg_skip 103 = .ok (.iadd, 1) := by decide +kernel
theorem d_Mpg_skip_104 : decode b_Mpg_skip 104 = .ok (.invokevirtual 300, 3) := by decide +kernel
theorem d_Mpg_skip_107 : decode b_Mpg_skip 107 = .ok (.bipush 42, 2) := by decide +kernel
theorem d_Mpg_skip_109 : decode b_Mpg_skip 109 = .ok (.if_icmp .ne 79, 3) := by decide +kernel
theorem d_Mpg_skip_112 : decode b_Mpg_skip 112 = .ok (.iload_n 2, 1) := by decide +kernel
theorem d_Mpg_skip_113 : decode b_Mpg_skip 113 = .ok (.iconst 2, 1) := by decide +kernel
theorem d_Mpg_skip_114 : decode b_Mpg_skip 114 = .ok (.iadd, 1) := by decide +kernel
theorem d_Mpg_skip_115 : decode b_Mpg_skip 115 = .ok (.istore 5, 2) := by decide +kernel
theorem d_Mpg_skip_117 : decode b_Mpg_skip 117 = .ok (.iload 5, 2) := by decide +kernel
theorem d_Mpg_skip_119 : decode b_Mpg_skip 119 = .ok (.aload_n 0, 1) := by decide +kernel
theorem d_Mpg_skip_120 : decode b_Mpg_skip 120 = .ok (.getfield 292, 3) := by decide +kernel
theorem d_Mpg_skip_123 : decode b_Mpg_skip 123 = .ok (.if_icmp .ge 34, 3) := by decide +kernel
theorem d_Mpg_skip_126 : decode b_Mpg_skip 126 = .ok (.aload_n 0, 1) := by decide +kernel
theorem d_Mpg_skip_127 : decode b_Mpg_skip 127 = .ok (.getfield 190, 3) := by decide +kernel
theorem d_Mpg_skip_130 : decode b_Mpg_skip 130 = .ok (.iload 5, 2) := by decide +kernel
theorem d_Mpg_skip_132 : decode b_Mpg_skip 132 = .ok (.baload, 1) := by decide +kernel
theorem d_Mpg_skip_133 : decode b_Mpg_skip 133 = .ok (.bipush 42, 2) := by decide +kernel
theorem d_Mpg_skip_135 : decode b_Mpg_skip 135 = .ok (.if_icmp .ne 16, 3) := by decide +kernel
theorem d_Mpg_skip_138 : decode b_Mpg_skip 138 = .ok (.aload_n 0, 1) := by decide +kernel
theorem d_Mpg_skip_139 : decode b_Mpg_skip 139 = .ok (.iload 5, 2) := by decide +kernel
theorem d_Mpg_skip_141 : decode b_Mpg_skip 141 = .ok (.iconst 1, 1) := by decide +kernel
theorem d_Mpg_skip_142 : decode b_Mpg_skip 142 = .ok (.iadd, 1) := by decide +kernel
theorem d_Mpg_skip_143 : decode b_Mpg_skip 143 = .ok (.invokevirtual 300, 3) := by decide +kernel
theorem d_Mpg_skip_146 : decode b_Mpg_skip 146 = .ok (.bipush 47, 2) := by decide +kernel
theorem d_Mpg_skip_148 : decode b_Mpg_skip 148 = .ok (.if_icmp .eq 9, 3) := by decide +kernel
theorem d_Mpg_skip_151 : decode b_Mpg_skip 151 = .ok (.iinc 5 1, 3) := by decide +kernel
theorem d_Mpg_skip_154 : decode b_Mpg_skip 154 = .ok (.goto (-37), 3) := by decide +kernel
theorem d_Mpg_skip_157 : decode b_Mpg_skip 157 = .ok (.iload 5, 2) := by decide +kernel
theorem d_Mpg_skip_159 : decode b_Mpg_skip 159 = .ok (.aload_n 0, 1) := by decide +kernel
theorem d_Mpg_skip_160 : decode b_Mpg_skip 160 = .ok (.getfield 292, 3) := by decide +kernel
theorem d_Mpg_skip_163 : decode b_Mpg_skip 163 = .ok (.if_icmp .ge 7, 3) := by decide +kernel
theorem d_Mpg_skip_166 : decode b_Mpg_skip 166 = .ok (.iconst 1, 1) := by decide +kernel
theorem d_Mpg_skip_167 : decode b_Mpg_skip 167 = .ok (.goto 4, 3) := by decide +kernel
theorem d_Mpg_skip_170 : decode b_Mpg_skip 170 = .ok (.iconst 0, 1) := by decide +kernel
theorem d_Mpg_skip_171 : decode b_Mpg_skip 171 = .ok (.istore_n 3, 1) := by decide +kernel
theorem d_Mpg_skip_172 : decode b_Mpg_skip 172 = .ok (.iload_n 3, 1) := by decide +kernel
theorem d_Mpg_skip_173 : decode b_Mpg_skip 173 = .ok (.ifCond .eq 10, 3) := by decide +kernel
theorem d_Mpg_skip_176 : decode b_Mpg_skip 176 = .ok (.iload 5, 2) := by decide +kernel
theorem d_Mpg_skip_178 : decode b_Mpg_skip 178 = .ok (.iconst 2, 1) := by decide +kernel
theorem d_Mpg_skip_179 : decode b_Mpg_skip 179 = .ok (.iadd, 1) := by decide +kernel
theorem d_Mpg_skip_180 : decode b_Mpg_skip 180 = .ok (.goto 4, 3) := by decide +kernel
theorem d_Mpg_skip_183 : decode b_Mpg_skip 183 = .ok (.iload_n 2, 1) := by decide +kernel
theorem d_Mpg_skip_184 : decode b_Mpg_skip 184 = .ok (.istore_n 2, 1) := by decide +kernel
theorem d_Mpg_skip_185 : decode b_Mpg_skip 185 = .ok (.goto 5, 3) := by decide +kernel
theorem d_Mpg_skip_188 : decode b_Mpg_skip 188 = .ok (.iconst 0, 1) := by decide +kernel
theorem d_Mpg_skip_189 : decode b_Mpg_skip 189 = .ok (.istore_n 3, 1) := by decide +kernel
theorem d_Mpg_skip_190 : decode b_Mpg_skip 190 = .ok (.goto (-186), 3) := by decide +kernel
theorem d_Mpg_skip_193 : decode b_Mpg_skip 193 = .ok (.iload_n 2, 1) := by decide +kernel
theorem d_Mpg_skip_194 : decode b_Mpg_skip 194 = .ok (.ireturn, 1) := by decide +kernel
theorem q_Mpg_skip : px_y y_Mpg_skip 1 := by unfold px_y; decide +kernel
set_option maxHeartbeats 4000000 in
set_option maxRecDepth 100000 in
theorem c_mp_skip (l : Launch) (D : va_G) (cs : Nat → ClassId) (h : Nat) (r : Nat → Nat) (g : Nat → Nat → Option Nat) (tf : Nat → Int32) (ta : Nat → Nat → Int32) (pf : Nat → Int32) (na : Nat → Nat → Int32) (ma : Nat → Nat → Int32) (wa : Nat → Nat → Int32) (cf : Nat → Int32) (ca : Nat → Nat → Int32) (ef : Nat → Int32) (ea : Nat → Nat → Int32) (xf : Nat → Int32) (xa : Nat → Nat → Int32) (p0 : Int32)  (g0 : 0 ≤ (tf 5).toInt) (g1 : (tf 5).toInt ≤ 2048) (g2 : 0 ≤ p0.toInt) (g3 : p0.toInt ≤ (tf 5).toInt) : MetI l y_Mpg_skip b_Mpg_skip 6 (.int) D cs 1 30 (0) (0) [.ref h, .int p0] [wdP cs h r g tf ta pf na ma wa cf ca ef ea xf xa] (fun _ => True) (fun v ps => (ps = [wdP cs h r g tf ta pf na ma wa cf ca ef ea xf xa]) ∧ (p0.toInt ≤ v.toInt) ∧ (v.toInt ≤ (tf 5).toInt) ∧ (R_mp_skip tf ta p0 v)) := by
  refine px_enter (by decide) (Nat.le_of_ble_eq_true rfl) ?_
  intro p e s m below meth c A ls hAe S hr hlk hnm hA hT hX hw hl
  have hl : lv_has ls 6 [(0, .ref h), (1, .int p0)] := hl
  have lp0 := Int32.le_toInt p0
  have up0 := Int32.toInt_lt p0
  have cst0 : (0 : Int32).toInt = 0 := rfl
  have cst1 : (1 : Int32).toInt = 1 := rfl
  have cst2 : (2 : Int32).toInt = 2 := rfl
  have cst9 : (9 : Int32).toInt = 9 := rfl
  have cst10 : (10 : Int32).toInt = 10 := rfl
  have cst13 : (13 : Int32).toInt = 13 := rfl
  have cst32 : (32 : Int32).toInt = 32 := rfl
  have cst42 : (42 : Int32).toInt = 42 := rfl
  have cst47 : (47 : Int32).toInt = 47 := rfl
  have J4 : ∀ (n_4 : Nat)  (x4_2 x4_3 : Int32) (H : Heap) (locs : List Loc) (ls : Array Slot), (0 ≤ x4_2.toInt) → (x4_2.toInt ≤ (tf 5).toInt) → (p0.toInt ≤ x4_2.toInt) → (0 ≤ x4_3.toInt) → (x4_3.toInt ≤ 1) → (K_mp_skip_4 tf ta p0 x4_2 x4_3) → 2*((tf 5).toInt-x4_2.toInt)+x4_3.toInt < (n_4 : Int) → pw D A s.heap H locs [wdP cs h r g tf ta pf na ma wa cf ca ef ea xf xa] → lv_has ls 6 [(0, .ref h), (1, .int p0), (2, .int x4_2), (3, .int x4_3)] → W p l e { frames := 1, cells := 0, slots := 0, locals := 30 } s m [.ref h, .int p0].toArray below meth c H locs 0 0 (MQ below (va_Qi (fun v ps => (ps = [wdP cs h r g tf ta pf na ma wa cf ca ef ea xf xa]) ∧ (p0.toInt ≤ v.toInt) ∧ (v.toInt ≤ (tf 5).toInt) ∧ (R_mp_skip tf ta p0 v)) (pc_B D (va_A ([wdP cs h r g tf ta pf na ma wa cf ca ef ea xf xa] : List va_W).flatten s.heap.size)) (va_A ([wdP cs h r g tf ta pf na ma wa cf ca ef ea xf xa] : List va_W).flatten s.heap.size)) [.ref h, .int p0].toArray s 0 0 A) (F0 m 4 ls []) := by
    intro  n_4
    induction n_4 with
    | zero =>
      intro x4_2 x4_3 H locs ls k4_0 k4_1 k4_2 k4_3 k4_4 k4_5 hm hw hl
      have lx4_2 := Int32.le_toInt x4_2
      have ux4_2 := Int32.toInt_lt x4_2
      have lx4_3 := Int32.le_toInt x4_3
      have ux4_3 := Int32.toInt_lt x4_3
      exact absurd hm (by omega)
    | succ n_4 ih4 =>
      intro x4_2 x4_3 H locs ls k4_0 k4_1 k4_2 k4_3 k4_4 k4_5 hm hw hl
      have lx4_2 := Int32.le_toInt x4_2
      have ux4_2 := Int32.toInt_lt x4_2
      have lx4_3 := Int32.le_toInt x4_3
      have ux4_3 := Int32.toInt_lt x4_3
      have J68 : ∀ (n_68 : Nat)  (x68_2 x68_3 : Int32) (H : Heap) (locs : List Loc) (ls : Array Slot), (0 ≤ x68_2.toInt) → (x68_2.toInt ≤ (tf 5).toInt) → (p0.toInt ≤ x68_2.toInt) → (x68_3.toInt = 1) → (x4_2.toInt ≤ x68_2.toInt) → (x4_2.toInt < (tf 5).toInt) → (2*((tf 5).toInt-x4_2.toInt)+1 < (n_4 : Int) + 1) → (SkL ta (tf 5).toInt x4_2.toInt x68_2.toInt) → (K_mp_skip_68 tf ta p0 x68_2 x68_3) → (tf 5).toInt-x68_2.toInt+1 < (n_68 : Int) → pw D A s.heap H locs [wdP cs h r g tf ta pf na ma wa cf ca ef ea xf xa] → lv_has ls 6 [(0, .ref h), (1, .int p0), (2, .int x68_2), (3, .int x68_3)] → W p l e { frames := 1, cells := 0, slots := 0, locals := 30 } s m [.ref h, .int p0].toArray below meth c H locs 0 0 (MQ below (va_Qi (fun v ps => (ps = [wdP cs h r g tf ta pf na ma wa cf ca ef ea xf xa]) ∧ (p0.toInt ≤ v.toInt) ∧ (v.toInt ≤ (tf 5).toInt) ∧ (R_mp_skip tf ta p0 v)) (pc_B D (va_A ([wdP cs h r g tf ta pf na ma wa cf ca ef ea xf xa] : List va_W).flatten s.heap.size)) (va_A ([wdP cs h r g tf ta pf na ma wa cf ca ef ea xf xa] : List va_W).flatten s.heap.size)) [.ref h, .int p0].toArray s 0 0 A) (F0 m 68 ls []) := by
        intro  n_68
        induction n_68 with
        | zero =>
          intro x68_2 x68_3 H locs ls k68_0 k68_1 k68_2 k68_3 k68_4 k68_5 k68_6 k68_7 k68_8 hm hw hl
          have lx68_2 := Int32.le_toInt x68_2
          have ux68_2 := Int32.toInt_lt x68_2
          have lx68_3 := Int32.le_toInt x68_3
          have ux68_3 := Int32.toInt_lt x68_3
          exact absurd hm (by omega)
        | succ n_68 ih68 =>
          intro x68_2 x68_3 H locs ls k68_0 k68_1 k68_2 k68_3 k68_4 k68_5 k68_6 k68_7 k68_8 hm hw hl
          have lx68_2 := Int32.le_toInt x68_2
          have ux68_2 := Int32.toInt_lt x68_2
          have lx68_3 := Int32.le_toInt x68_3
          have ux68_3 := Int32.toInt_lt x68_3
          refine lv_iload_n S.x S.b d_Mpg_skip_68 rfl (lv_at hl 2 rfl) ?_
          refine lv_aload_n S.x S.b d_Mpg_skip_69 rfl (lv_at hl 0 rfl) ?_
          refine gP_5 (v := (tf 5)) S hT hw 0 rfl rfl m9_229 d_Mpg_skip_70 ?_
          refine lv_icmp_ge (tgt := 190) S.x S.b d_Mpg_skip_73 (by decide) (fun c1 => ?_) (fun c1 => ?_)
          · have nc1 : (tf 5).toInt ≤ x68_2.toInt := (i_le (x := (tf 5)) (y := x68_2)).mp c1
            refine lv_goto (tgt := 4) S.x S.b d_Mpg_skip_190 (by decide) ?_
            first | exact ih4 x68_2 x68_3 _ _ ls (show 0 ≤ x68_2.toInt from k68_0) (show x68_2.toInt ≤ (tf 5).toInt from k68_1) (show p0.toInt ≤ x68_2.toInt from k68_2) (show 0 ≤ x68_3.toInt from (oz_1b364b1c5f k68_3)) (show x68_3.toInt ≤ 1 from (oz_02032f9386 k68_3)) (show K_mp_skip_4 tf ta p0 x68_2 x68_3 from (fun y_v k hE => k68_8 y_v (k + 1) (Or.inr (Or.inr (Or.inl ⟨rfl, x68_2, x68_3, rfl, rfl, rfl, rfl, rfl, Or.inl ⟨nc1, hE⟩⟩))))) (show 2*((tf 5).toInt-x68_2.toInt)+x68_3.toInt < (n_4 : Int) from (oz_f24dcc9049 k68_3 k68_5 k68_6 nc1)) hw (lv_sub hl [0, 1, 2, 3] rfl) | (exact ih4 x68_2 x68_3 _ _ ls (show 0 ≤ x68_2.toInt from by first | exact k68_0 | omega) (show x68_2.toInt ≤ (tf 5).toInt from by first | exact k68_1 | omega) (show p0.toInt ≤ x68_2.toInt from by first | exact k68_2 | omega) (show 0 ≤ x68_3.toInt from by first | exact oz_1b364b1c5f k68_3 | omega) (show x68_3.toInt ≤ 1 from by first | exact oz_02032f9386 k68_3 | omega) (show K_mp_skip_4 tf ta p0 x68_2 x68_3 from (fun y_v k hE => k68_8 y_v (k + 1) (Or.inr (Or.inr (Or.inl ⟨rfl, x68_2, x68_3, rfl, rfl, rfl, rfl, rfl, Or.inl ⟨nc1, hE⟩⟩))))) (show 2*((tf 5).toInt-x68_2.toInt)+x68_3.toInt < (n_4 : Int) from by first | exact oz_f24dcc9049 k68_3 k68_5 k68_6 nc1 | omega) hw (lv_sub hl [0, 1, 2, 3] rfl))
          · have nc1 : ¬ (tf 5).toInt ≤ x68_2.toInt := mt (i_le (x := (tf 5)) (y := x68_2)).mpr c1
            refine lv_aload_n S.x S.b d_Mpg_skip_76 rfl (lv_at hl 0 rfl) ?_
            refine gP_4 S hT hw 0 rfl m9_228 d_Mpg_skip_77 ?_
            refine lv_iload_n S.x S.b d_Mpg_skip_80 rfl (lv_at hl 2 rfl) ?_
            refine px_bald S hT hw 0 5 (n := 2048) (f := (ta 4)) rfl gp_4 (x := x68_2) (vp_in_iff.mpr (by first | exact oz_09e936ef1f k68_0 nc1 g1 | (constructor <;> omega))) d_Mpg_skip_81 ?_
            refine lv_topi (fun z3 ez3 => ?_)
            have lz3 := Int32.le_toInt z3
            have uz3 := Int32.toInt_lt z3
            have hsk := SkL.go (show SkL ta (tf 5).toInt x4_2.toInt x68_2.toInt by assumption) (by omega) (by omega) ez3
            refine lv_bipush (v := 10) S.x S.b d_Mpg_skip_82 (by decide) ?_
            refine lv_icmp_eq (tgt := 190) S.x S.b d_Mpg_skip_84 (by decide) (fun c4 => ?_) (fun c4 => ?_)
            · have nc4 : z3.toInt = (10 : Int) := (i_eq (x := z3) (y := 10)).mp c4
              refine lv_goto (tgt := 4) S.x S.b d_Mpg_skip_190 (by decide) ?_
              first | exact ih4 x68_2 x68_3 _ _ ls (show 0 ≤ x68_2.toInt from k68_0) (show x68_2.toInt ≤ (tf 5).toInt from k68_1) (show p0.toInt ≤ x68_2.toInt from k68_2) (show 0 ≤ x68_3.toInt from (oz_1b364b1c5f k68_3)) (show x68_3.toInt ≤ 1 from (oz_02032f9386 k68_3)) (show K_mp_skip_4 tf ta p0 x68_2 x68_3 from (fun y_v k hE => k68_8 y_v (k + 1) (Or.inr (Or.inr (Or.inl ⟨rfl, x68_2, x68_3, rfl, rfl, rfl, rfl, rfl, Or.inr ⟨nc1, z3, ez3, Or.inl ⟨nc4, hE⟩⟩⟩))))) (show 2*((tf 5).toInt-x68_2.toInt)+x68_3.toInt < (n_4 : Int) from by omega) hw (lv_sub hl [0, 1, 2, 3] rfl) | (exact ih4 x68_2 x68_3 _ _ ls (show 0 ≤ x68_2.toInt from by first | exact k68_0 | omega) (show x68_2.toInt ≤ (tf 5).toInt from by first | exact k68_1 | omega) (show p0.toInt ≤ x68_2.toInt from by first | exact k68_2 | omega) (show 0 ≤ x68_3.toInt from by first | exact oz_1b364b1c5f k68_3 | omega) (show x68_3.toInt ≤ 1 from by first | exact oz_02032f9386 k68_3 | omega) (show K_mp_skip_4 tf ta p0 x68_2 x68_3 from (fun y_v k hE => k68_8 y_v (k + 1) (Or.inr (Or.inr (Or.inl ⟨rfl, x68_2, x68_3, rfl, rfl, rfl, rfl, rfl, Or.inr ⟨nc1, z3, ez3, Or.inl ⟨nc4, hE⟩⟩⟩))))) (show 2*((tf 5).toInt-x68_2.toInt)+x68_3.toInt < (n_4 : Int) from by omega) hw (lv_sub hl [0, 1, 2, 3] rfl))
            · have nc4 : ¬ z3.toInt = (10 : Int) := mt (i_eq (x := z3) (y := 10)).mpr c4
              obtain ⟨z6, ez6⟩ : ∃ y : Int32, y = x68_2 + 1 := ⟨_, rfl⟩
              have tz6 : z6.toInt = (x68_2.toInt + 1 + 2147483648) % 4294967296 - 2147483648 := by rw [ez6]; exact i_add x68_2 1
              have lz6 := Int32.le_toInt z6
              have uz6 := Int32.toInt_lt z6
              try replace tz6 : z6.toInt = x68_2.toInt + 1 := by omega
              refine lv_iinc (v := z6) (lv' := [(2, .int z6), (0, .ref h), (1, .int p0), (3, .int x68_3)]) S.x S.b d_Mpg_skip_87 hl (k := 2) rfl (by rw [ez6]; rfl) (by decide) rfl (fun ls hl => ?_)
              refine lv_goto (tgt := 68) S.x S.b d_Mpg_skip_90 (by decide) ?_
              first | exact ih68 z6 x68_3 _ _ ls (show 0 ≤ z6.toInt from (oz_ae613611c0 tz6 k68_0)) (show z6.toInt ≤ (tf 5).toInt from (oz_b1314744c8 nc1 tz6)) (show p0.toInt ≤ z6.toInt from (oz_887c409de9 k68_2 tz6)) (show x68_3.toInt = 1 from k68_3) (show x4_2.toInt ≤ z6.toInt from (oz_887c409de9 k68_4 tz6)) (show x4_2.toInt < (tf 5).toInt from k68_5) (show 2*((tf 5).toInt-x4_2.toInt)+1 < (n_4 : Int) + 1 from k68_6) (show SkL ta (tf 5).toInt x4_2.toInt z6.toInt from (by first | exact Or.inl (by omega) | exact skl_0 (by assumption) (by omega))) (show K_mp_skip_68 tf ta p0 z6 x68_3 from (fun y_v k hE => k68_8 y_v (k + 1) (Or.inr (Or.inr (Or.inl ⟨rfl, x68_2, x68_3, rfl, rfl, rfl, rfl, rfl, Or.inr ⟨nc1, z3, ez3, Or.inr ⟨nc4, z6, ez6, hE⟩⟩⟩))))) (show (tf 5).toInt-z6.toInt+1 < (n_68 : Int) from (oz_ed25187654 hm tz6)) hw (lv_sub hl [1, 2, 0, 3] rfl) | (exact ih68 z6 x68_3 _ _ ls (show 0 ≤ z6.toInt from by first | exact oz_ae613611c0 tz6 k68_0 | omega) (show z6.toInt ≤ (tf 5).toInt from by first | exact oz_b1314744c8 nc1 tz6 | omega) (show p0.toInt ≤ z6.toInt from by first | exact oz_887c409de9 k68_2 tz6 | omega) (show x68_3.toInt = 1 from by first | exact k68_3 | omega) (show x4_2.toInt ≤ z6.toInt from by first | exact oz_887c409de9 k68_4 tz6 | omega) (show x4_2.toInt < (tf 5).toInt from by first | exact k68_5 | omega) (show 2*((tf 5).toInt-x4_2.toInt)+1 < (n_4 : Int) + 1 from by first | exact k68_6 | omega) (show SkL ta (tf 5).toInt x4_2.toInt z6.toInt from (by first | exact Or.inl (by omega) | exact skl_0 (by assumption) (by omega))) (show K_mp_skip_68 tf ta p0 z6 x68_3 from (fun y_v k hE => k68_8 y_v (k + 1) (Or.inr (Or.inr (Or.inl ⟨rfl, x68_2, x68_3, rfl, rfl, rfl, rfl, rfl, Or.inr ⟨nc1, z3, ez3, Or.inr ⟨nc4, z6, ez6, hE⟩⟩⟩))))) (show (tf 5).toInt-z6.toInt+1 < (n_68 : Int) from by first | exact oz_ed25187654 hm tz6 | omega) hw (lv_sub hl [1, 2, 0, 3] rfl))
      have J117 : ∀ (n_117 : Nat)  (x117_2 x117_3 x117_5 : Int32) (H : Heap) (locs : List Loc) (ls : Array Slot), (x117_2.toInt = x4_2.toInt) → (x4_2.toInt < (tf 5).toInt) → (x117_2.toInt+2 ≤ x117_5.toInt) → (x117_5.toInt ≤ (tf 5).toInt+2) → (x117_3.toInt = 1) → (2*((tf 5).toInt-x4_2.toInt)+1 < (n_4 : Int) + 1) → (K_mp_skip_117 tf ta p0 x117_2 x117_3 x117_5) → (tf 5).toInt+3-x117_5.toInt < (n_117 : Int) → pw D A s.heap H locs [wdP cs h r g tf ta pf na ma wa cf ca ef ea xf xa] → lv_has ls 6 [(0, .ref h), (1, .int p0), (2, .int x117_2), (3, .int x117_3), (5, .int x117_5)] → W p l e { frames := 1, cells := 0, slots := 0, locals := 30 } s m [.ref h, .int p0].toArray below meth c H locs 0 0 (MQ below (va_Qi (fun v ps => (ps = [wdP cs h r g tf ta pf na ma wa cf ca ef ea xf xa]) ∧ (p0.toInt ≤ v.toInt) ∧ (v.toInt ≤ (tf 5).toInt) ∧ (R_mp_skip tf ta p0 v)) (pc_B D (va_A ([wdP cs h r g tf ta pf na ma wa cf ca ef ea xf xa] : List va_W).flatten s.heap.size)) (va_A ([wdP cs h r g tf ta pf na ma wa cf ca ef ea xf xa] : List va_W).flatten s.heap.size)) [.ref h, .int p0].toArray s 0 0 A) (F0 m 117 ls []) := by
        intro  n_117
        induction n_117 with
        | zero =>
          intro x117_2 x117_3 x117_5 H locs ls k117_0 k117_1 k117_2 k117_3 k117_4 k117_5 k117_6 hm hw hl
          have lx117_2 := Int32.le_toInt x117_2
          have ux117_2 := Int32.toInt_lt x117_2
          have lx117_3 := Int32.le_toInt x117_3
          have ux117_3 := Int32.toInt_lt x117_3
          have lx117_5 := Int32.le_toInt x117_5
          have ux117_5 := Int32.toInt_lt x117_5
          exact absurd hm (by omega)
        | succ n_117 ih117 =>
          intro x117_2 x117_3 x117_5 H locs ls k117_0 k117_1 k117_2 k117_3 k117_4 k117_5 k117_6 hm hw hl
          have lx117_2 := Int32.le_toInt x117_2
          have ux117_2 := Int32.toInt_lt x117_2
          have lx117_3 := Int32.le_toInt x117_3
          have ux117_3 := Int32.toInt_lt x117_3
          have lx117_5 := Int32.le_toInt x117_5
          have ux117_5 := Int32.toInt_lt x117_5
          refine lv_iload S.x S.b d_Mpg_skip_117 (lv_at hl 4 rfl) ?_
          refine lv_aload_n S.x S.b d_Mpg_skip_119 rfl (lv_at hl 0 rfl) ?_
          refine gP_5 (v := (tf 5)) S hT hw 0 rfl rfl m9_229 d_Mpg_skip_120 ?_
          refine lv_icmp_ge (tgt := 157) S.x S.b d_Mpg_skip_123 (by decide) (fun c7 => ?_) (fun c7 => ?_)
          · have nc7 : (tf 5).toInt ≤ x117_5.toInt := (i_le (x := (tf 5)) (y := x117_5)).mp c7
            refine lv_iload S.x S.b d_Mpg_skip_157 (lv_at hl 4 rfl) ?_
            refine lv_aload_n S.x S.b d_Mpg_skip_159 rfl (lv_at hl 0 rfl) ?_
            refine gP_5 (v := (tf 5)) S hT hw 0 rfl rfl m9_229 d_Mpg_skip_160 ?_
            refine lv_icmp_ge (tgt := 170) S.x S.b d_Mpg_skip_163 (by decide) (fun c9 => ?_) (fun c9 => ?_)
            · have nc9 : (tf 5).toInt ≤ x117_5.toInt := (i_le (x := (tf 5)) (y := x117_5)).mp c9
              refine lv_iconst (v := 0) S.x S.b d_Mpg_skip_170 (by decide) ?_
              refine lv_istore_n (lv' := [(3, .int 0), (0, .ref h), (1, .int p0), (2, .int x117_2), (5, .int x117_5)]) S.x S.b d_Mpg_skip_171 rfl hl (by decide) rfl (fun ls hl => ?_)
              refine lv_iload_n S.x S.b d_Mpg_skip_172 rfl (lv_at hl 0 rfl) ?_
              refine lv_if_eq (tgt := 183) S.x S.b d_Mpg_skip_173 (by decide) (fun c11 => ?_) (fun c11 => ?_)
              ·
                refine lv_iload_n S.x S.b d_Mpg_skip_183 rfl (lv_at hl 3 rfl) ?_
                refine lv_istore_n (lv' := [(2, .int x117_2), (3, .int 0), (0, .ref h), (1, .int p0), (5, .int x117_5)]) S.x S.b d_Mpg_skip_184 rfl hl (by decide) rfl (fun ls hl => ?_)
                refine lv_goto (tgt := 190) S.x S.b d_Mpg_skip_185 (by decide) ?_
                refine lv_goto (tgt := 4) S.x S.b d_Mpg_skip_190 (by decide) ?_
                first | exact ih4 x117_2 (0 : Int32) _ _ ls (show 0 ≤ x117_2.toInt from (oz_f3ebed1ad0 k117_0 k4_0)) (show x117_2.toInt ≤ (tf 5).toInt from (oz_557a37817b k117_0 k117_1)) (show p0.toInt ≤ x117_2.toInt from (oz_b1a9dcfb4c k4_2 k117_0)) (show 0 ≤ (0 : Int) from oz_5a341f00aa) (show (0 : Int) ≤ 1 from oz_6e68cd0f48) (show K_mp_skip_4 tf ta p0 x117_2 0 from (fun y_v k hE => k117_6 y_v (k + 1) (Or.inr (Or.inr (Or.inr (Or.inl ⟨rfl, x117_2, x117_3, x117_5, rfl, rfl, rfl, rfl, rfl, Or.inl ⟨nc7, Or.inl ⟨nc9, hE⟩⟩⟩)))))) (show 2*((tf 5).toInt-x117_2.toInt)+(0 : Int) < (n_4 : Int) from (oz_ecca3dfb0c k117_0 k117_5)) hw (lv_sub hl [2, 3, 0, 1] rfl) | (exact ih4 x117_2 (0 : Int32) _ _ ls (show 0 ≤ x117_2.toInt from by first | exact oz_f3ebed1ad0 k117_0 k4_0 | omega) (show x117_2.toInt ≤ (tf 5).toInt from by first | exact oz_557a37817b k117_0 k117_1 | omega) (show p0.toInt ≤ x117_2.toInt from by first | exact oz_b1a9dcfb4c k4_2 k117_0 | omega) (show 0 ≤ (0 : Int) from by first | exact oz_5a341f00aa | omega) (show (0 : Int) ≤ 1 from by first | exact oz_6e68cd0f48 | omega) (show K_mp_skip_4 tf ta p0 x117_2 0 from (fun y_v k hE => k117_6 y_v (k + 1) (Or.inr (Or.inr (Or.inr (Or.inl ⟨rfl, x117_2, x117_3, x117_5, rfl, rfl, rfl, rfl, rfl, Or.inl ⟨nc7, Or.inl ⟨nc9, hE⟩⟩⟩)))))) (show 2*((tf 5).toInt-x117_2.toInt)+(0 : Int) < (n_4 : Int) from by first | exact oz_ecca3dfb0c k117_0 k117_5 | omega) hw (lv_sub hl [2, 3, 0, 1] rfl))
              · exact absurd c11 (by decide)
            · have nc9 : ¬ (tf 5).toInt ≤ x117_5.toInt := mt (i_le (x := (tf 5)) (y := x117_5)).mpr c9
              refine lv_iconst (v := 1) S.x S.b d_Mpg_skip_166 (by decide) ?_
              refine lv_goto (tgt := 171) S.x S.b d_Mpg_skip_167 (by decide) ?_
              refine lv_istore_n (lv' := [(3, .int 1), (0, .ref h), (1, .int p0), (2, .int x117_2), (5, .int x117_5)]) S.x S.b d_Mpg_skip_171 rfl hl (by decide) rfl (fun ls hl => ?_)
              refine lv_iload_n S.x S.b d_Mpg_skip_172 rfl (lv_at hl 0 rfl) ?_
              refine lv_if_eq (tgt := 183) S.x S.b d_Mpg_skip_173 (by decide) (fun c12 => ?_) (fun c12 => ?_)
              · exact absurd c12 (by decide)
              ·
                refine lv_iload S.x S.b d_Mpg_skip_176 (lv_at hl 4 rfl) ?_
                refine lv_iconst (v := 2) S.x S.b d_Mpg_skip_178 (by decide) ?_
                refine lv_iadd S.x S.b d_Mpg_skip_179 ?_
                refine lv_topi (fun z13 ez13 => ?_)
                have tz13 : z13.toInt = (x117_5.toInt + (2 : Int) + 2147483648) % 4294967296 - 2147483648 := by rw [ez13]; exact i_add x117_5 2
                have lz13 := Int32.le_toInt z13
                have uz13 := Int32.toInt_lt z13
                first | replace tz13 : z13.toInt = x117_5.toInt + (2 : Int) := (oz_940de6a9c8 nc7 nc9) | (try replace tz13 : z13.toInt = x117_5.toInt + (2 : Int) := by first | exact oz_940de6a9c8 nc7 nc9 | omega)
                refine lv_goto (tgt := 184) S.x S.b d_Mpg_skip_180 (by decide) ?_
                refine lv_istore_n (lv' := [(2, .int z13), (3, .int 1), (0, .ref h), (1, .int p0), (5, .int x117_5)]) S.x S.b d_Mpg_skip_184 rfl hl (by decide) rfl (fun ls hl => ?_)
                refine lv_goto (tgt := 190) S.x S.b d_Mpg_skip_185 (by decide) ?_
                refine lv_goto (tgt := 4) S.x S.b d_Mpg_skip_190 (by decide) ?_
                first | exact ih4 z13 (1 : Int32) _ _ ls (show 0 ≤ z13.toInt from (oz_1324c69164 nc7 nc9)) (show z13.toInt ≤ (tf 5).toInt from (oz_f113aea7dc nc7 nc9)) (show p0.toInt ≤ z13.toInt from (oz_1fa527725d k4_2 tz13 k117_0 k117_2)) (show 0 ≤ (1 : Int) from oz_19c3a41681) (show (1 : Int) ≤ 1 from oz_f9181dc4bb) (show K_mp_skip_4 tf ta p0 z13 1 from (fun y_v k hE => k117_6 y_v (k + 1) (Or.inr (Or.inr (Or.inr (Or.inl ⟨rfl, x117_2, x117_3, x117_5, rfl, rfl, rfl, rfl, rfl, Or.inl ⟨nc7, Or.inr ⟨nc9, z13, ez13, hE⟩⟩⟩)))))) (show 2*((tf 5).toInt-z13.toInt)+(1 : Int) < (n_4 : Int) from (oz_2aa15b7bba k117_5 tz13 k117_0 k117_2)) hw (lv_sub hl [2, 3, 0, 1] rfl) | (exact ih4 z13 (1 : Int32) _ _ ls (show 0 ≤ z13.toInt from by first | exact oz_1324c69164 nc7 nc9 | omega) (show z13.toInt ≤ (tf 5).toInt from by first | exact oz_f113aea7dc nc7 nc9 | omega) (show p0.toInt ≤ z13.toInt from by first | exact oz_1fa527725d k4_2 tz13 k117_0 k117_2 | omega) (show 0 ≤ (1 : Int) from by first | exact oz_19c3a41681 | omega) (show (1 : Int) ≤ 1 from by first | exact oz_f9181dc4bb | omega) (show K_mp_skip_4 tf ta p0 z13 1 from (fun y_v k hE => k117_6 y_v (k + 1) (Or.inr (Or.inr (Or.inr (Or.inl ⟨rfl, x117_2, x117_3, x117_5, rfl, rfl, rfl, rfl, rfl, Or.inl ⟨nc7, Or.inr ⟨nc9, z13, ez13, hE⟩⟩⟩)))))) (show 2*((tf 5).toInt-z13.toInt)+(1 : Int) < (n_4 : Int) from by first | exact oz_2aa15b7bba k117_5 tz13 k117_0 k117_2 | omega) hw (lv_sub hl [2, 3, 0, 1] rfl))
          · have nc7 : ¬ (tf 5).toInt ≤ x117_5.toInt := mt (i_le (x := (tf 5)) (y := x117_5)).mpr c7
            refine lv_aload_n S.x S.b d_Mpg_skip_126 rfl (lv_at hl 0 rfl) ?_
            refine gP_4 S hT hw 0 rfl m9_228 d_Mpg_skip_127 ?_
            refine lv_iload S.x S.b d_Mpg_skip_130 (lv_at hl 4 rfl) ?_
            refine px_bald S hT hw 0 5 (n := 2048) (f := (ta 4)) rfl gp_4 (x := x117_5) (vp_in_iff.mpr (by first | exact oz_824e588cb8 k117_2 k117_0 k4_0 nc7 g1 | (constructor <;> omega))) d_Mpg_skip_132 ?_
            refine lv_topi (fun z14 ez14 => ?_)
            have lz14 := Int32.le_toInt z14
            have uz14 := Int32.toInt_lt z14
            refine lv_bipush (v := 42) S.x S.b d_Mpg_skip_133 (by decide) ?_
            refine lv_icmp_ne (tgt := 151) S.x S.b d_Mpg_skip_135 (by decide) (fun c15 => ?_) (fun c15 => ?_)
            · have nc15 : ¬ z14.toInt = (42 : Int) := mt (i_eq (x := z14) (y := 42)).mpr c15
              obtain ⟨z17, ez17⟩ : ∃ y : Int32, y = x117_5 + 1 := ⟨_, rfl⟩
              have tz17 : z17.toInt = (x117_5.toInt + 1 + 2147483648) % 4294967296 - 2147483648 := by rw [ez17]; exact i_add x117_5 1
              have lz17 := Int32.le_toInt z17
              have uz17 := Int32.toInt_lt z17
              try replace tz17 : z17.toInt = x117_5.toInt + 1 := by omega
              refine lv_iinc (v := z17) (lv' := [(5, .int z17), (0, .ref h), (1, .int p0), (2, .int x117_2), (3, .int x117_3)]) S.x S.b d_Mpg_skip_151 hl (k := 4) rfl (by rw [ez17]; rfl) (by decide) rfl (fun ls hl => ?_)
              refine lv_goto (tgt := 117) S.x S.b d_Mpg_skip_154 (by decide) ?_
              first | exact ih117 x117_2 x117_3 z17 _ _ ls (show x117_2.toInt = x4_2.toInt from k117_0) (show x4_2.toInt < (tf 5).toInt from k117_1) (show x117_2.toInt+2 ≤ z17.toInt from (oz_c62a6f59f1 k117_2 tz17)) (show z17.toInt ≤ (tf 5).toInt+2 from (oz_6feed251f4 nc7 tz17)) (show x117_3.toInt = 1 from k117_4) (show 2*((tf 5).toInt-x4_2.toInt)+1 < (n_4 : Int) + 1 from k117_5) (show K_mp_skip_117 tf ta p0 x117_2 x117_3 z17 from (fun y_v k hE => k117_6 y_v (k + 1) (Or.inr (Or.inr (Or.inr (Or.inl ⟨rfl, x117_2, x117_3, x117_5, rfl, rfl, rfl, rfl, rfl, Or.inr ⟨nc7, z14, ez14, Or.inl ⟨nc15, z17, ez17, hE⟩⟩⟩)))))) (show (tf 5).toInt+3-z17.toInt < (n_117 : Int) from (oz_76ad6441cd hm tz17)) hw (lv_sub hl [1, 2, 3, 4, 0] rfl) | (exact ih117 x117_2 x117_3 z17 _ _ ls (show x117_2.toInt = x4_2.toInt from by first | exact k117_0 | omega) (show x4_2.toInt < (tf 5).toInt from by first | exact k117_1 | omega) (show x117_2.toInt+2 ≤ z17.toInt from by first | exact oz_c62a6f59f1 k117_2 tz17 | omega) (show z17.toInt ≤ (tf 5).toInt+2 from by first | exact oz_6feed251f4 nc7 tz17 | omega) (show x117_3.toInt = 1 from by first | exact k117_4 | omega) (show 2*((tf 5).toInt-x4_2.toInt)+1 < (n_4 : Int) + 1 from by first | exact k117_5 | omega) (show K_mp_skip_117 tf ta p0 x117_2 x117_3 z17 from (fun y_v k hE => k117_6 y_v (k + 1) (Or.inr (Or.inr (Or.inr (Or.inl ⟨rfl, x117_2, x117_3, x117_5, rfl, rfl, rfl, rfl, rfl, Or.inr ⟨nc7, z14, ez14, Or.inl ⟨nc15, z17, ez17, hE⟩⟩⟩)))))) (show (tf 5).toInt+3-z17.toInt < (n_117 : Int) from by first | exact oz_76ad6441cd hm tz17 | omega) hw (lv_sub hl [1, 2, 3, 4, 0] rfl))
            · have nc15 : z14.toInt = (42 : Int) := (i_eq (x := z14) (y := 42)).mp c15
              refine lv_aload_n S.x S.b d_Mpg_skip_138 rfl (lv_at hl 0 rfl) ?_
              refine lv_iload S.x S.b d_Mpg_skip_139 (lv_at hl 4 rfl) ?_
              refine lv_iconst (v := 1) S.x S.b d_Mpg_skip_141 (by decide) ?_
              refine lv_iadd S.x S.b d_Mpg_skip_142 ?_
              refine lv_topi (fun z18 ez18 => ?_)
              have tz18 : z18.toInt = (x117_5.toInt + (1 : Int) + 2147483648) % 4294967296 - 2147483648 := by rw [ez18]; exact i_add x117_5 1
              have lz18 := Int32.le_toInt z18
              have uz18 := Int32.toInt_lt z18
              try replace tz18 : z18.toInt = x117_5.toInt + (1 : Int) := by omega
              first | refine px_calli (pr := []) (px_runV (As := [.int z18]) (rest := []) S (c_mp_byteAt l D cs h r g tf ta pf na ma wa cf ca ef ea xf xa z18  (show 0 ≤ (tf 5).toInt from g0) (show (tf 5).toInt ≤ 2048 from g1) (show 0 ≤ z18.toInt from (oz_64f0fc27da tz18 k117_2 k117_0 k4_0)) _) hT (pr := []) (pcs := [wdP cs h r g tf ta pf na ma wa cf ca ef ea xf xa]) hw px_X.tt (px_recv hT hw 0 0 rfl rfl rfl) m11_142 m11_139 m11_141 ms_7_15 m1_21 q_Mpg_byteAt ⟨Nat.le_of_ble_eq_true rfl, Nat.le_of_ble_eq_true rfl⟩ hl.1 rfl (Nat.le_of_ble_eq_true rfl) d_Mpg_skip_143 ⟨Nat.le_of_ble_eq_true rfl, Nat.le_of_ble_eq_true rfl⟩) hw hA (fun v20 p19 H locs hp19 hw => ?_) | (refine px_calli (pr := []) (px_runV (As := [.int z18]) (rest := []) S (c_mp_byteAt l D cs h r g tf ta pf na ma wa cf ca ef ea xf xa z18  (show 0 ≤ (tf 5).toInt from by first | exact g0 | omega) (show (tf 5).toInt ≤ 2048 from by first | exact g1 | omega) (show 0 ≤ z18.toInt from by first | exact oz_64f0fc27da tz18 k117_2 k117_0 k4_0 | omega) _) hT (pr := []) (pcs := [wdP cs h r g tf ta pf na ma wa cf ca ef ea xf xa]) hw px_X.tt (px_recv hT hw 0 0 rfl rfl rfl) m11_142 m11_139 m11_141 ms_7_15 m1_21 q_Mpg_byteAt ⟨Nat.le_of_ble_eq_true rfl, Nat.le_of_ble_eq_true rfl⟩ hl.1 rfl (Nat.le_of_ble_eq_true rfl) d_Mpg_skip_143 ⟨Nat.le_of_ble_eq_true rfl, Nat.le_of_ble_eq_true rfl⟩) hw hA (fun v20 p19 H locs hp19 hw => ?_))
              obtain ⟨rfl, e21, e22, e23⟩ := hp19
              have e21 : z18.toInt < (tf 5).toInt ∨ v20.toInt = -1 := e21
              have e22 : BtV ta (tf 5).toInt z18.toInt v20.toInt := e22
              have e23 : R_mp_byteAt tf ta z18 v20 := e23
              have lv20 := Int32.le_toInt v20
              have uv20 := Int32.toInt_lt v20
              refine lv_bipush (v := 47) S.x S.b d_Mpg_skip_146 (by decide) ?_
              refine lv_icmp_eq (tgt := 157) S.x S.b d_Mpg_skip_148 (by decide) (fun c24 => ?_) (fun c24 => ?_)
              · have nc24 : v20.toInt = (47 : Int) := (i_eq (x := v20) (y := 47)).mp c24
                refine lv_iload S.x S.b d_Mpg_skip_157 (lv_at hl 4 rfl) ?_
                refine lv_aload_n S.x S.b d_Mpg_skip_159 rfl (lv_at hl 0 rfl) ?_
                refine gP_5 (v := (tf 5)) S hT hw 0 rfl rfl m9_229 d_Mpg_skip_160 ?_
                refine lv_icmp_ge (tgt := 170) S.x S.b d_Mpg_skip_163 (by decide) (fun c26 => ?_) (fun c26 => ?_)
                · have nc26 : (tf 5).toInt ≤ x117_5.toInt := (i_le (x := (tf 5)) (y := x117_5)).mp c26
                  refine lv_iconst (v := 0) S.x S.b d_Mpg_skip_170 (by decide) ?_
                  refine lv_istore_n (lv' := [(3, .int 0), (0, .ref h), (1, .int p0), (2, .int x117_2), (5, .int x117_5)]) S.x S.b d_Mpg_skip_171 rfl hl (by decide) rfl (fun ls hl => ?_)
                  refine lv_iload_n S.x S.b d_Mpg_skip_172 rfl (lv_at hl 0 rfl) ?_
                  refine lv_if_eq (tgt := 183) S.x S.b d_Mpg_skip_173 (by decide) (fun c28 => ?_) (fun c28 => ?_)
                  ·
                    refine lv_iload_n S.x S.b d_Mpg_skip_183 rfl (lv_at hl 3 rfl) ?_
                    refine lv_istore_n (lv' := [(2, .int x117_2), (3, .int 0), (0, .ref h), (1, .int p0), (5, .int x117_5)]) S.x S.b d_Mpg_skip_184 rfl hl (by decide) rfl (fun ls hl => ?_)
                    refine lv_goto (tgt := 190) S.x S.b d_Mpg_skip_185 (by decide) ?_
                    refine lv_goto (tgt := 4) S.x S.b d_Mpg_skip_190 (by decide) ?_
                    first | exact ih4 x117_2 (0 : Int32) _ _ ls (show 0 ≤ x117_2.toInt from (oz_cb6fc200ec nc7 nc26)) (show x117_2.toInt ≤ (tf 5).toInt from (oz_966a2b43e9 k117_2 nc7)) (show p0.toInt ≤ x117_2.toInt from (oz_b1a9dcfb4c k4_2 k117_0)) (show 0 ≤ (0 : Int) from oz_5a341f00aa) (show (0 : Int) ≤ 1 from oz_6e68cd0f48) (show K_mp_skip_4 tf ta p0 x117_2 0 from (fun y_v k hE => k117_6 y_v (k + 1) (Or.inr (Or.inr (Or.inr (Or.inl ⟨rfl, x117_2, x117_3, x117_5, rfl, rfl, rfl, rfl, rfl, Or.inr ⟨nc7, z14, ez14, Or.inr ⟨nc15, z18, ez18, v20, e23, Or.inl ⟨nc24, Or.inl ⟨nc26, hE⟩⟩⟩⟩⟩)))))) (show 2*((tf 5).toInt-x117_2.toInt)+(0 : Int) < (n_4 : Int) from (oz_778752150f nc7 nc26)) hw (lv_sub hl [2, 3, 0, 1] rfl) | (exact ih4 x117_2 (0 : Int32) _ _ ls (show 0 ≤ x117_2.toInt from by first | exact oz_cb6fc200ec nc7 nc26 | omega) (show x117_2.toInt ≤ (tf 5).toInt from by first | exact oz_966a2b43e9 k117_2 nc7 | omega) (show p0.toInt ≤ x117_2.toInt from by first | exact oz_b1a9dcfb4c k4_2 k117_0 | omega) (show 0 ≤ (0 : Int) from by first | exact oz_5a341f00aa | omega) (show (0 : Int) ≤ 1 from by first | exact oz_6e68cd0f48 | omega) (show K_mp_skip_4 tf ta p0 x117_2 0 from (fun y_v k hE => k117_6 y_v (k + 1) (Or.inr (Or.inr (Or.inr (Or.inl ⟨rfl, x117_2, x117_3, x117_5, rfl, rfl, rfl, rfl, rfl, Or.inr ⟨nc7, z14, ez14, Or.inr ⟨nc15, z18, ez18, v20, e23, Or.inl ⟨nc24, Or.inl ⟨nc26, hE⟩⟩⟩⟩⟩)))))) (show 2*((tf 5).toInt-x117_2.toInt)+(0 : Int) < (n_4 : Int) from by first | exact oz_778752150f nc7 nc26 | omega) hw (lv_sub hl [2, 3, 0, 1] rfl))
                  · exact absurd c28 (by decide)
                · have nc26 : ¬ (tf 5).toInt ≤ x117_5.toInt := mt (i_le (x := (tf 5)) (y := x117_5)).mpr c26
                  refine lv_iconst (v := 1) S.x S.b d_Mpg_skip_166 (by decide) ?_
                  refine lv_goto (tgt := 171) S.x S.b d_Mpg_skip_167 (by decide) ?_
                  refine lv_istore_n (lv' := [(3, .int 1), (0, .ref h), (1, .int p0), (2, .int x117_2), (5, .int x117_5)]) S.x S.b d_Mpg_skip_171 rfl hl (by decide) rfl (fun ls hl => ?_)
                  refine lv_iload_n S.x S.b d_Mpg_skip_172 rfl (lv_at hl 0 rfl) ?_
                  refine lv_if_eq (tgt := 183) S.x S.b d_Mpg_skip_173 (by decide) (fun c29 => ?_) (fun c29 => ?_)
                  · exact absurd c29 (by decide)
                  ·
                    refine lv_iload S.x S.b d_Mpg_skip_176 (lv_at hl 4 rfl) ?_
                    refine lv_iconst (v := 2) S.x S.b d_Mpg_skip_178 (by decide) ?_
                    refine lv_iadd S.x S.b d_Mpg_skip_179 ?_
                    refine lv_topi (fun z30 ez30 => ?_)
                    have tz30 : z30.toInt = (x117_5.toInt + (2 : Int) + 2147483648) % 4294967296 - 2147483648 := by rw [ez30]; exact i_add x117_5 2
                    have lz30 := Int32.le_toInt z30
                    have uz30 := Int32.toInt_lt z30
                    try replace tz30 : z30.toInt = x117_5.toInt + (2 : Int) := by omega
                    refine lv_goto (tgt := 184) S.x S.b d_Mpg_skip_180 (by decide) ?_
                    refine lv_istore_n (lv' := [(2, .int z30), (3, .int 1), (0, .ref h), (1, .int p0), (5, .int x117_5)]) S.x S.b d_Mpg_skip_184 rfl hl (by decide) rfl (fun ls hl => ?_)
                    refine lv_goto (tgt := 190) S.x S.b d_Mpg_skip_185 (by decide) ?_
                    refine lv_goto (tgt := 4) S.x S.b d_Mpg_skip_190 (by decide) ?_
                    first | exact ih4 z30 (1 : Int32) _ _ ls (show 0 ≤ z30.toInt from (oz_c0992979bc tz30 k117_2 k117_0 k4_0)) (show z30.toInt ≤ (tf 5).toInt from (oz_aec1ea6af1 tz30 nc24 e21 tz18)) (show p0.toInt ≤ z30.toInt from (oz_1fa527725d k4_2 tz30 k117_0 k117_2)) (show 0 ≤ (1 : Int) from oz_19c3a41681) (show (1 : Int) ≤ 1 from oz_f9181dc4bb) (show K_mp_skip_4 tf ta p0 z30 1 from (fun y_v k hE => k117_6 y_v (k + 1) (Or.inr (Or.inr (Or.inr (Or.inl ⟨rfl, x117_2, x117_3, x117_5, rfl, rfl, rfl, rfl, rfl, Or.inr ⟨nc7, z14, ez14, Or.inr ⟨nc15, z18, ez18, v20, e23, Or.inl ⟨nc24, Or.inr ⟨nc26, z30, ez30, hE⟩⟩⟩⟩⟩)))))) (show 2*((tf 5).toInt-z30.toInt)+(1 : Int) < (n_4 : Int) from (oz_2aa15b7bba k117_5 tz30 k117_0 k117_2)) hw (lv_sub hl [2, 3, 0, 1] rfl) | (exact ih4 z30 (1 : Int32) _ _ ls (show 0 ≤ z30.toInt from by first | exact oz_c0992979bc tz30 k117_2 k117_0 k4_0 | omega) (show z30.toInt ≤ (tf 5).toInt from by first | exact oz_aec1ea6af1 tz30 nc24 e21 tz18 | omega) (show p0.toInt ≤ z30.toInt from by first | exact oz_1fa527725d k4_2 tz30 k117_0 k117_2 | omega) (show 0 ≤ (1 : Int) from by first | exact oz_19c3a41681 | omega) (show (1 : Int) ≤ 1 from by first | exact oz_f9181dc4bb | omega) (show K_mp_skip_4 tf ta p0 z30 1 from (fun y_v k hE => k117_6 y_v (k + 1) (Or.inr (Or.inr (Or.inr (Or.inl ⟨rfl, x117_2, x117_3, x117_5, rfl, rfl, rfl, rfl, rfl, Or.inr ⟨nc7, z14, ez14, Or.inr ⟨nc15, z18, ez18, v20, e23, Or.inl ⟨nc24, Or.inr ⟨nc26, z30, ez30, hE⟩⟩⟩⟩⟩)))))) (show 2*((tf 5).toInt-z30.toInt)+(1 : Int) < (n_4 : Int) from by first | exact oz_2aa15b7bba k117_5 tz30 k117_0 k117_2 | omega) hw (lv_sub hl [2, 3, 0, 1] rfl))
              · have nc24 : ¬ v20.toInt = (47 : Int) := mt (i_eq (x := v20) (y := 47)).mpr c24
                obtain ⟨z31, ez31⟩ : ∃ y : Int32, y = x117_5 + 1 := ⟨_, rfl⟩
                have tz31 : z31.toInt = (x117_5.toInt + 1 + 2147483648) % 4294967296 - 2147483648 := by rw [ez31]; exact i_add x117_5 1
                have lz31 := Int32.le_toInt z31
                have uz31 := Int32.toInt_lt z31
                try replace tz31 : z31.toInt = x117_5.toInt + 1 := by omega
                refine lv_iinc (v := z31) (lv' := [(5, .int z31), (0, .ref h), (1, .int p0), (2, .int x117_2), (3, .int x117_3)]) S.x S.b d_Mpg_skip_151 hl (k := 4) rfl (by rw [ez31]; rfl) (by decide) rfl (fun ls hl => ?_)
                refine lv_goto (tgt := 117) S.x S.b d_Mpg_skip_154 (by decide) ?_
                first | exact ih117 x117_2 x117_3 z31 _ _ ls (show x117_2.toInt = x4_2.toInt from k117_0) (show x4_2.toInt < (tf 5).toInt from k117_1) (show x117_2.toInt+2 ≤ z31.toInt from (oz_c62a6f59f1 k117_2 tz31)) (show z31.toInt ≤ (tf 5).toInt+2 from (oz_6feed251f4 nc7 tz31)) (show x117_3.toInt = 1 from k117_4) (show 2*((tf 5).toInt-x4_2.toInt)+1 < (n_4 : Int) + 1 from k117_5) (show K_mp_skip_117 tf ta p0 x117_2 x117_3 z31 from (fun y_v k hE => k117_6 y_v (k + 1) (Or.inr (Or.inr (Or.inr (Or.inl ⟨rfl, x117_2, x117_3, x117_5, rfl, rfl, rfl, rfl, rfl, Or.inr ⟨nc7, z14, ez14, Or.inr ⟨nc15, z18, ez18, v20, e23, Or.inr ⟨nc24, z31, ez31, hE⟩⟩⟩⟩)))))) (show (tf 5).toInt+3-z31.toInt < (n_117 : Int) from (oz_76ad6441cd hm tz31)) hw (lv_sub hl [1, 2, 3, 4, 0] rfl) | (exact ih117 x117_2 x117_3 z31 _ _ ls (show x117_2.toInt = x4_2.toInt from by first | exact k117_0 | omega) (show x4_2.toInt < (tf 5).toInt from by first | exact k117_1 | omega) (show x117_2.toInt+2 ≤ z31.toInt from by first | exact oz_c62a6f59f1 k117_2 tz31 | omega) (show z31.toInt ≤ (tf 5).toInt+2 from by first | exact oz_6feed251f4 nc7 tz31 | omega) (show x117_3.toInt = 1 from by first | exact k117_4 | omega) (show 2*((tf 5).toInt-x4_2.toInt)+1 < (n_4 : Int) + 1 from by first | exact k117_5 | omega) (show K_mp_skip_117 tf ta p0 x117_2 x117_3 z31 from (fun y_v k hE => k117_6 y_v (k + 1) (Or.inr (Or.inr (Or.inr (Or.inl ⟨rfl, x117_2, x117_3, x117_5, rfl, rfl, rfl, rfl, rfl, Or.inr ⟨nc7, z14, ez14, Or.inr ⟨nc15, z18, ez18, v20, e23, Or.inr ⟨nc24, z31, ez31, hE⟩⟩⟩⟩)))))) (show (tf 5).toInt+3-z31.toInt < (n_117 : Int) from by first | exact oz_76ad6441cd hm tz31 | omega) hw (lv_sub hl [1, 2, 3, 4, 0] rfl))
      refine lv_iload_n S.x S.b d_Mpg_skip_4 rfl (lv_at hl 3 rfl) ?_
      refine lv_if_eq (tgt := 193) S.x S.b d_Mpg_skip_5 (by decide) (fun c32 => ?_) (fun c32 => ?_)
      · have nc32 : x4_3.toInt = (0 : Int) := (i_eq (x := x4_3) (y := 0)).mp c32
        refine lv_iload_n S.x S.b d_Mpg_skip_193 rfl (lv_at hl 2 rfl) ?_
        first | exact px_iret (v := x4_2) S hr rfl hlk hAe hw (Nat.le_of_ble_eq_true rfl) (Nat.le_of_ble_eq_true rfl) (⟨rfl, (show p0.toInt ≤ x4_2.toInt from k4_2), (show x4_2.toInt ≤ (tf 5).toInt from k4_1), (show R_mp_skip tf ta p0 x4_2 from (k4_5 _ 1 (Or.inr (Or.inl ⟨rfl, x4_2, x4_3, rfl, rfl, rfl, rfl, rfl, Or.inl ⟨nc32, rfl⟩⟩))))⟩) d_Mpg_skip_194 | (exact px_iret (v := x4_2) S hr rfl hlk hAe hw (Nat.le_of_ble_eq_true rfl) (Nat.le_of_ble_eq_true rfl) (⟨rfl, (show p0.toInt ≤ x4_2.toInt from by first | exact k4_2 | omega), (show x4_2.toInt ≤ (tf 5).toInt from by first | exact k4_1 | omega), (show R_mp_skip tf ta p0 x4_2 from (k4_5 _ 1 (Or.inr (Or.inl ⟨rfl, x4_2, x4_3, rfl, rfl, rfl, rfl, rfl, Or.inl ⟨nc32, rfl⟩⟩))))⟩) d_Mpg_skip_194)
      · have nc32 : ¬ x4_3.toInt = (0 : Int) := mt (i_eq (x := x4_3) (y := 0)).mpr c32
        refine lv_aload_n S.x S.b d_Mpg_skip_8 rfl (lv_at hl 0 rfl) ?_
        refine lv_iload_n S.x S.b d_Mpg_skip_9 rfl (lv_at hl 2 rfl) ?_
        first | refine px_calli (pr := []) (px_runV (As := [.int x4_2]) (rest := []) S (c_mp_byteAt l D cs h r g tf ta pf na ma wa cf ca ef ea xf xa x4_2  (show 0 ≤ (tf 5).toInt from g0) (show (tf 5).toInt ≤ 2048 from g1) (show 0 ≤ x4_2.toInt from k4_0) _) hT (pr := []) (pcs := [wdP cs h r g tf ta pf na ma wa cf ca ef ea xf xa]) hw px_X.tt (px_recv hT hw 0 0 rfl rfl rfl) m11_142 m11_139 m11_141 ms_7_15 m1_21 q_Mpg_byteAt ⟨Nat.le_of_ble_eq_true rfl, Nat.le_of_ble_eq_true rfl⟩ hl.1 rfl (Nat.le_of_ble_eq_true rfl) d_Mpg_skip_10 ⟨Nat.le_of_ble_eq_true rfl, Nat.le_of_ble_eq_true rfl⟩) hw hA (fun v35 p34 H locs hp34 hw => ?_) | (refine px_calli (pr := []) (px_runV (As := [.int x4_2]) (rest := []) S (c_mp_byteAt l D cs h r g tf ta pf na ma wa cf ca ef ea xf xa x4_2  (show 0 ≤ (tf 5).toInt from by first | exact g0 | omega) (show (tf 5).toInt ≤ 2048 from by first | exact g1 | omega) (show 0 ≤ x4_2.toInt from by first | exact k4_0 | omega) _) hT (pr := []) (pcs := [wdP cs h r g tf ta pf na ma wa cf ca ef ea xf xa]) hw px_X.tt (px_recv hT hw 0 0 rfl rfl rfl) m11_142 m11_139 m11_141 ms_7_15 m1_21 q_Mpg_byteAt ⟨Nat.le_of_ble_eq_true rfl, Nat.le_of_ble_eq_true rfl⟩ hl.1 rfl (Nat.le_of_ble_eq_true rfl) d_Mpg_skip_10 ⟨Nat.le_of_ble_eq_true rfl, Nat.le_of_ble_eq_true rfl⟩) hw hA (fun v35 p34 H locs hp34 hw => ?_))
        obtain ⟨rfl, e36, e37, e38⟩ := hp34
        have e36 : x4_2.toInt < (tf 5).toInt ∨ v35.toInt = -1 := e36
        have e37 : BtV ta (tf 5).toInt x4_2.toInt v35.toInt := e37
        have e38 : R_mp_byteAt tf ta x4_2 v35 := e38
        have lv35 := Int32.le_toInt v35
        have uv35 := Int32.toInt_lt v35
        refine lv_istore (lv' := [(4, .int v35), (0, .ref h), (1, .int p0), (2, .int x4_2), (3, .int x4_3)]) S.x S.b d_Mpg_skip_13 hl (by decide) rfl (fun ls hl => ?_)
        refine lv_iload S.x S.b d_Mpg_skip_15 (lv_at hl 0 rfl) ?_
        refine lv_bipush (v := 32) S.x S.b d_Mpg_skip_17 (by decide) ?_
        refine lv_icmp_eq (tgt := 43) S.x S.b d_Mpg_skip_19 (by decide) (fun c39 => ?_) (fun c39 => ?_)
        · have nc39 : v35.toInt = (32 : Int) := (i_eq (x := v35) (y := 32)).mp c39
          obtain ⟨z41, ez41⟩ : ∃ y : Int32, y = x4_2 + 1 := ⟨_, rfl⟩
          have tz41 : z41.toInt = (x4_2.toInt + 1 + 2147483648) % 4294967296 - 2147483648 := by rw [ez41]; exact i_add x4_2 1
          have lz41 := Int32.le_toInt z41
          have uz41 := Int32.toInt_lt z41
          try replace tz41 : z41.toInt = x4_2.toInt + 1 := by omega
          refine lv_iinc (v := z41) (lv' := [(2, .int z41), (4, .int v35), (0, .ref h), (1, .int p0), (3, .int x4_3)]) S.x S.b d_Mpg_skip_43 hl (k := 3) rfl (by rw [ez41]; rfl) (by decide) rfl (fun ls hl => ?_)
          refine lv_goto (tgt := 190) S.x S.b d_Mpg_skip_46 (by decide) ?_
          refine lv_goto (tgt := 4) S.x S.b d_Mpg_skip_190 (by decide) ?_
          first | exact ih4 z41 x4_3 _ _ ls (show 0 ≤ z41.toInt from (oz_ae613611c0 tz41 k4_0)) (show z41.toInt ≤ (tf 5).toInt from (oz_39d3e19a7a tz41 nc39 e36)) (show p0.toInt ≤ z41.toInt from (oz_887c409de9 k4_2 tz41)) (show 0 ≤ x4_3.toInt from k4_3) (show x4_3.toInt ≤ 1 from k4_4) (show K_mp_skip_4 tf ta p0 z41 x4_3 from (fun y_v k hE => k4_5 y_v (k + 1) (Or.inr (Or.inl ⟨rfl, x4_2, x4_3, rfl, rfl, rfl, rfl, rfl, Or.inr ⟨nc32, v35, e38, Or.inl ⟨nc39, z41, ez41, hE⟩⟩⟩)))) (show 2*((tf 5).toInt-z41.toInt)+x4_3.toInt < (n_4 : Int) from (oz_03013327c6 hm tz41)) hw (lv_sub hl [2, 3, 0, 4] rfl) | (exact ih4 z41 x4_3 _ _ ls (show 0 ≤ z41.toInt from by first | exact oz_ae613611c0 tz41 k4_0 | omega) (show z41.toInt ≤ (tf 5).toInt from by first | exact oz_39d3e19a7a tz41 nc39 e36 | omega) (show p0.toInt ≤ z41.toInt from by first | exact oz_887c409de9 k4_2 tz41 | omega) (show 0 ≤ x4_3.toInt from by first | exact k4_3 | omega) (show x4_3.toInt ≤ 1 from by first | exact k4_4 | omega) (show K_mp_skip_4 tf ta p0 z41 x4_3 from (fun y_v k hE => k4_5 y_v (k + 1) (Or.inr (Or.inl ⟨rfl, x4_2, x4_3, rfl, rfl, rfl, rfl, rfl, Or.inr ⟨nc32, v35, e38, Or.inl ⟨nc39, z41, ez41, hE⟩⟩⟩)))) (show 2*((tf 5).toInt-z41.toInt)+x4_3.toInt < (n_4 : Int) from by first | exact oz_03013327c6 hm tz41 | omega) hw (lv_sub hl [2, 3, 0, 4] rfl))
        · have nc39 : ¬ v35.toInt = (32 : Int) := mt (i_eq (x := v35) (y := 32)).mpr c39
          refine lv_iload S.x S.b d_Mpg_skip_22 (lv_at hl 0 rfl) ?_
          refine lv_bipush (v := 9) S.x S.b d_Mpg_skip_24 (by decide) ?_
          refine lv_icmp_eq (tgt := 43) S.x S.b d_Mpg_skip_26 (by decide) (fun c42 => ?_) (fun c42 => ?_)
          · have nc42 : v35.toInt = (9 : Int) := (i_eq (x := v35) (y := 9)).mp c42
            obtain ⟨z44, ez44⟩ : ∃ y : Int32, y = x4_2 + 1 := ⟨_, rfl⟩
            have tz44 : z44.toInt = (x4_2.toInt + 1 + 2147483648) % 4294967296 - 2147483648 := by rw [ez44]; exact i_add x4_2 1
            have lz44 := Int32.le_toInt z44
            have uz44 := Int32.toInt_lt z44
            try replace tz44 : z44.toInt = x4_2.toInt + 1 := by omega
            refine lv_iinc (v := z44) (lv' := [(2, .int z44), (4, .int v35), (0, .ref h), (1, .int p0), (3, .int x4_3)]) S.x S.b d_Mpg_skip_43 hl (k := 3) rfl (by rw [ez44]; rfl) (by decide) rfl (fun ls hl => ?_)
            refine lv_goto (tgt := 190) S.x S.b d_Mpg_skip_46 (by decide) ?_
            refine lv_goto (tgt := 4) S.x S.b d_Mpg_skip_190 (by decide) ?_
            first | exact ih4 z44 x4_3 _ _ ls (show 0 ≤ z44.toInt from (oz_ae613611c0 tz44 k4_0)) (show z44.toInt ≤ (tf 5).toInt from (oz_7c6cc53d41 tz44 nc42 e36)) (show p0.toInt ≤ z44.toInt from (oz_887c409de9 k4_2 tz44)) (show 0 ≤ x4_3.toInt from k4_3) (show x4_3.toInt ≤ 1 from k4_4) (show K_mp_skip_4 tf ta p0 z44 x4_3 from (fun y_v k hE => k4_5 y_v (k + 1) (Or.inr (Or.inl ⟨rfl, x4_2, x4_3, rfl, rfl, rfl, rfl, rfl, Or.inr ⟨nc32, v35, e38, Or.inr ⟨nc39, Or.inl ⟨nc42, z44, ez44, hE⟩⟩⟩⟩)))) (show 2*((tf 5).toInt-z44.toInt)+x4_3.toInt < (n_4 : Int) from (oz_03013327c6 hm tz44)) hw (lv_sub hl [2, 3, 0, 4] rfl) | (exact ih4 z44 x4_3 _ _ ls (show 0 ≤ z44.toInt from by first | exact oz_ae613611c0 tz44 k4_0 | omega) (show z44.toInt ≤ (tf 5).toInt from by first | exact oz_7c6cc53d41 tz44 nc42 e36 | omega) (show p0.toInt ≤ z44.toInt from by first | exact oz_887c409de9 k4_2 tz44 | omega) (show 0 ≤ x4_3.toInt from by first | exact k4_3 | omega) (show x4_3.toInt ≤ 1 from by first | exact k4_4 | omega) (show K_mp_skip_4 tf ta p0 z44 x4_3 from (fun y_v k hE => k4_5 y_v (k + 1) (Or.inr (Or.inl ⟨rfl, x4_2, x4_3, rfl, rfl, rfl, rfl, rfl, Or.inr ⟨nc32, v35, e38, Or.inr ⟨nc39, Or.inl ⟨nc42, z44, ez44, hE⟩⟩⟩⟩)))) (show 2*((tf 5).toInt-z44.toInt)+x4_3.toInt < (n_4 : Int) from by first | exact oz_03013327c6 hm tz44 | omega) hw (lv_sub hl [2, 3, 0, 4] rfl))
          · have nc42 : ¬ v35.toInt = (9 : Int) := mt (i_eq (x := v35) (y := 9)).mpr c42
            refine lv_iload S.x S.b d_Mpg_skip_29 (lv_at hl 0 rfl) ?_
            refine lv_bipush (v := 10) S.x S.b d_Mpg_skip_31 (by decide) ?_
            refine lv_icmp_eq (tgt := 43) S.x S.b d_Mpg_skip_33 (by decide) (fun c45 => ?_) (fun c45 => ?_)
            · have nc45 : v35.toInt = (10 : Int) := (i_eq (x := v35) (y := 10)).mp c45
              obtain ⟨z47, ez47⟩ : ∃ y : Int32, y = x4_2 + 1 := ⟨_, rfl⟩
              have tz47 : z47.toInt = (x4_2.toInt + 1 + 2147483648) % 4294967296 - 2147483648 := by rw [ez47]; exact i_add x4_2 1
              have lz47 := Int32.le_toInt z47
              have uz47 := Int32.toInt_lt z47
              try replace tz47 : z47.toInt = x4_2.toInt + 1 := by omega
              refine lv_iinc (v := z47) (lv' := [(2, .int z47), (4, .int v35), (0, .ref h), (1, .int p0), (3, .int x4_3)]) S.x S.b d_Mpg_skip_43 hl (k := 3) rfl (by rw [ez47]; rfl) (by decide) rfl (fun ls hl => ?_)
              refine lv_goto (tgt := 190) S.x S.b d_Mpg_skip_46 (by decide) ?_
              refine lv_goto (tgt := 4) S.x S.b d_Mpg_skip_190 (by decide) ?_
              first | exact ih4 z47 x4_3 _ _ ls (show 0 ≤ z47.toInt from (oz_ae613611c0 tz47 k4_0)) (show z47.toInt ≤ (tf 5).toInt from (oz_ccc010c257 tz47 nc45 e36)) (show p0.toInt ≤ z47.toInt from (oz_887c409de9 k4_2 tz47)) (show 0 ≤ x4_3.toInt from k4_3) (show x4_3.toInt ≤ 1 from k4_4) (show K_mp_skip_4 tf ta p0 z47 x4_3 from (fun y_v k hE => k4_5 y_v (k + 1) (Or.inr (Or.inl ⟨rfl, x4_2, x4_3, rfl, rfl, rfl, rfl, rfl, Or.inr ⟨nc32, v35, e38, Or.inr ⟨nc39, Or.inr ⟨nc42, Or.inl ⟨nc45, z47, ez47, hE⟩⟩⟩⟩⟩)))) (show 2*((tf 5).toInt-z47.toInt)+x4_3.toInt < (n_4 : Int) from (oz_03013327c6 hm tz47)) hw (lv_sub hl [2, 3, 0, 4] rfl) | (exact ih4 z47 x4_3 _ _ ls (show 0 ≤ z47.toInt from by first | exact oz_ae613611c0 tz47 k4_0 | omega) (show z47.toInt ≤ (tf 5).toInt from by first | exact oz_ccc010c257 tz47 nc45 e36 | omega) (show p0.toInt ≤ z47.toInt from by first | exact oz_887c409de9 k4_2 tz47 | omega) (show 0 ≤ x4_3.toInt from by first | exact k4_3 | omega) (show x4_3.toInt ≤ 1 from by first | exact k4_4 | omega) (show K_mp_skip_4 tf ta p0 z47 x4_3 from (fun y_v k hE => k4_5 y_v (k + 1) (Or.inr (Or.inl ⟨rfl, x4_2, x4_3, rfl, rfl, rfl, rfl, rfl, Or.inr ⟨nc32, v35, e38, Or.inr ⟨nc39, Or.inr ⟨nc42, Or.inl ⟨nc45, z47, ez47, hE⟩⟩⟩⟩⟩)))) (show 2*((tf 5).toInt-z47.toInt)+x4_3.toInt < (n_4 : Int) from by first | exact oz_03013327c6 hm tz47 | omega) hw (lv_sub hl [2, 3, 0, 4] rfl))
            · have nc45 : ¬ v35.toInt = (10 : Int) := mt (i_eq (x := v35) (y := 10)).mpr c45
              refine lv_iload S.x S.b d_Mpg_skip_36 (lv_at hl 0 rfl) ?_
              refine lv_bipush (v := 13) S.x S.b d_Mpg_skip_38 (by decide) ?_
              refine lv_icmp_ne (tgt := 49) S.x S.b d_Mpg_skip_40 (by decide) (fun c48 => ?_) (fun c48 => ?_)
              · have nc48 : ¬ v35.toInt = (13 : Int) := mt (i_eq (x := v35) (y := 13)).mpr c48
                refine lv_iload S.x S.b d_Mpg_skip_49 (lv_at hl 0 rfl) ?_
                refine lv_bipush (v := 47) S.x S.b d_Mpg_skip_51 (by decide) ?_
                refine lv_icmp_ne (tgt := 93) S.x S.b d_Mpg_skip_53 (by decide) (fun c50 => ?_) (fun c50 => ?_)
                · have nc50 : ¬ v35.toInt = (47 : Int) := mt (i_eq (x := v35) (y := 47)).mpr c50
                  refine lv_iload S.x S.b d_Mpg_skip_93 (lv_at hl 0 rfl) ?_
                  refine lv_bipush (v := 47) S.x S.b d_Mpg_skip_95 (by decide) ?_
                  refine lv_icmp_ne (tgt := 188) S.x S.b d_Mpg_skip_97 (by decide) (fun c52 => ?_) (fun c52 => ?_)
                  · have nc52 : ¬ v35.toInt = (47 : Int) := mt (i_eq (x := v35) (y := 47)).mpr c52
                    refine lv_iconst (v := 0) S.x S.b d_Mpg_skip_188 (by decide) ?_
                    refine lv_istore_n (lv' := [(3, .int 0), (4, .int v35), (0, .ref h), (1, .int p0), (2, .int x4_2)]) S.x S.b d_Mpg_skip_189 rfl hl (by decide) rfl (fun ls hl => ?_)
                    refine lv_goto (tgt := 4) S.x S.b d_Mpg_skip_190 (by decide) ?_
                    first | exact ih4 x4_2 (0 : Int32) _ _ ls (show 0 ≤ x4_2.toInt from k4_0) (show x4_2.toInt ≤ (tf 5).toInt from k4_1) (show p0.toInt ≤ x4_2.toInt from k4_2) (show 0 ≤ (0 : Int) from oz_5a341f00aa) (show (0 : Int) ≤ 1 from oz_6e68cd0f48) (show K_mp_skip_4 tf ta p0 x4_2 0 from (fun y_v k hE => k4_5 y_v (k + 1) (Or.inr (Or.inl ⟨rfl, x4_2, x4_3, rfl, rfl, rfl, rfl, rfl, Or.inr ⟨nc32, v35, e38, Or.inr ⟨nc39, Or.inr ⟨nc42, Or.inr ⟨nc45, Or.inl ⟨nc48, Or.inl ⟨nc50, Or.inl ⟨nc52, hE⟩⟩⟩⟩⟩⟩⟩⟩)))) (show 2*((tf 5).toInt-x4_2.toInt)+(0 : Int) < (n_4 : Int) from (oz_e06991e3fb hm k4_3 nc32)) hw (lv_sub hl [2, 3, 4, 0] rfl) | (exact ih4 x4_2 (0 : Int32) _ _ ls (show 0 ≤ x4_2.toInt from by first | exact k4_0 | omega) (show x4_2.toInt ≤ (tf 5).toInt from by first | exact k4_1 | omega) (show p0.toInt ≤ x4_2.toInt from by first | exact k4_2 | omega) (show 0 ≤ (0 : Int) from by first | exact oz_5a341f00aa | omega) (show (0 : Int) ≤ 1 from by first | exact oz_6e68cd0f48 | omega) (show K_mp_skip_4 tf ta p0 x4_2 0 from (fun y_v k hE => k4_5 y_v (k + 1) (Or.inr (Or.inl ⟨rfl, x4_2, x4_3, rfl, rfl, rfl, rfl, rfl, Or.inr ⟨nc32, v35, e38, Or.inr ⟨nc39, Or.inr ⟨nc42, Or.inr ⟨nc45, Or.inl ⟨nc48, Or.inl ⟨nc50, Or.inl ⟨nc52, hE⟩⟩⟩⟩⟩⟩⟩⟩)))) (show 2*((tf 5).toInt-x4_2.toInt)+(0 : Int) < (n_4 : Int) from by first | exact oz_e06991e3fb hm k4_3 nc32 | omega) hw (lv_sub hl [2, 3, 4, 0] rfl))
                  · have nc52 : v35.toInt = (47 : Int) := (i_eq (x := v35) (y := 47)).mp c52
                    refine lv_aload_n S.x S.b d_Mpg_skip_100 rfl (lv_at hl 1 rfl) ?_
                    refine lv_iload_n S.x S.b d_Mpg_skip_101 rfl (lv_at hl 3 rfl) ?_
                    refine lv_iconst (v := 1) S.x S.b d_Mpg_skip_102 (by decide) ?_
                    refine lv_iadd S.x S.b d_Mpg_skip_103 ?_
                    refine lv_topi (fun z54 ez54 => ?_)
                    have tz54 : z54.toInt = (x4_2.toInt + (1 : Int) + 2147483648) % 4294967296 - 2147483648 := by rw [ez54]; exact i_add x4_2 1
                    have lz54 := Int32.le_toInt z54
                    have uz54 := Int32.toInt_lt z54
                    try replace tz54 : z54.toInt = x4_2.toInt + (1 : Int) := by omega
                    first | refine px_calli (pr := []) (px_runV (As := [.int z54]) (rest := []) S (c_mp_byteAt l D cs h r g tf ta pf na ma wa cf ca ef ea xf xa z54  (show 0 ≤ (tf 5).toInt from g0) (show (tf 5).toInt ≤ 2048 from g1) (show 0 ≤ z54.toInt from (oz_b3b25f0e49 tz54 k4_0)) _) hT (pr := []) (pcs := [wdP cs h r g tf ta pf na ma wa cf ca ef ea xf xa]) hw px_X.tt (px_recv hT hw 0 0 rfl rfl rfl) m11_142 m11_139 m11_141 ms_7_15 m1_21 q_Mpg_byteAt ⟨Nat.le_of_ble_eq_true rfl, Nat.le_of_ble_eq_true rfl⟩ hl.1 rfl (Nat.le_of_ble_eq_true rfl) d_Mpg_skip_104 ⟨Nat.le_of_ble_eq_true rfl, Nat.le_of_ble_eq_true rfl⟩) hw hA (fun v56 p55 H locs hp55 hw => ?_) | (refine px_calli (pr := []) (px_runV (As := [.int z54]) (rest := []) S (c_mp_byteAt l D cs h r g tf ta pf na ma wa cf ca ef ea xf xa z54  (show 0 ≤ (tf 5).toInt from by first | exact g0 | omega) (show (tf 5).toInt ≤ 2048 from by first | exact g1 | omega) (show 0 ≤ z54.toInt from by first | exact oz_b3b25f0e49 tz54 k4_0 | omega) _) hT (pr := []) (pcs := [wdP cs h r g tf ta pf na ma wa cf ca ef ea xf xa]) hw px_X.tt (px_recv hT hw 0 0 rfl rfl rfl) m11_142 m11_139 m11_141 ms_7_15 m1_21 q_Mpg_byteAt ⟨Nat.le_of_ble_eq_true rfl, Nat.le_of_ble_eq_true rfl⟩ hl.1 rfl (Nat.le_of_ble_eq_true rfl) d_Mpg_skip_104 ⟨Nat.le_of_ble_eq_true rfl, Nat.le_of_ble_eq_true rfl⟩) hw hA (fun v56 p55 H locs hp55 hw => ?_))
                    obtain ⟨rfl, e57, e58, e59⟩ := hp55
                    have e57 : z54.toInt < (tf 5).toInt ∨ v56.toInt = -1 := e57
                    have e58 : BtV ta (tf 5).toInt z54.toInt v56.toInt := e58
                    have e59 : R_mp_byteAt tf ta z54 v56 := e59
                    have lv56 := Int32.le_toInt v56
                    have uv56 := Int32.toInt_lt v56
                    refine lv_bipush (v := 42) S.x S.b d_Mpg_skip_107 (by decide) ?_
                    refine lv_icmp_ne (tgt := 188) S.x S.b d_Mpg_skip_109 (by decide) (fun c60 => ?_) (fun c60 => ?_)
                    · have nc60 : ¬ v56.toInt = (42 : Int) := mt (i_eq (x := v56) (y := 42)).mpr c60
                      refine lv_iconst (v := 0) S.x S.b d_Mpg_skip_188 (by decide) ?_
                      refine lv_istore_n (lv' := [(3, .int 0), (4, .int v35), (0, .ref h), (1, .int p0), (2, .int x4_2)]) S.x S.b d_Mpg_skip_189 rfl hl (by decide) rfl (fun ls hl => ?_)
                      refine lv_goto (tgt := 4) S.x S.b d_Mpg_skip_190 (by decide) ?_
                      first | exact ih4 x4_2 (0 : Int32) _ _ ls (show 0 ≤ x4_2.toInt from k4_0) (show x4_2.toInt ≤ (tf 5).toInt from k4_1) (show p0.toInt ≤ x4_2.toInt from k4_2) (show 0 ≤ (0 : Int) from oz_5a341f00aa) (show (0 : Int) ≤ 1 from oz_6e68cd0f48) (show K_mp_skip_4 tf ta p0 x4_2 0 from (fun y_v k hE => k4_5 y_v (k + 1) (Or.inr (Or.inl ⟨rfl, x4_2, x4_3, rfl, rfl, rfl, rfl, rfl, Or.inr ⟨nc32, v35, e38, Or.inr ⟨nc39, Or.inr ⟨nc42, Or.inr ⟨nc45, Or.inl ⟨nc48, Or.inl ⟨nc50, Or.inr ⟨nc52, z54, ez54, v56, e59, Or.inl ⟨nc60, hE⟩⟩⟩⟩⟩⟩⟩⟩⟩)))) (show 2*((tf 5).toInt-x4_2.toInt)+(0 : Int) < (n_4 : Int) from (oz_e06991e3fb hm k4_3 nc32)) hw (lv_sub hl [2, 3, 4, 0] rfl) | (exact ih4 x4_2 (0 : Int32) _ _ ls (show 0 ≤ x4_2.toInt from by first | exact k4_0 | omega) (show x4_2.toInt ≤ (tf 5).toInt from by first | exact k4_1 | omega) (show p0.toInt ≤ x4_2.toInt from by first | exact k4_2 | omega) (show 0 ≤ (0 : Int) from by first | exact oz_5a341f00aa | omega) (show (0 : Int) ≤ 1 from by first | exact oz_6e68cd0f48 | omega) (show K_mp_skip_4 tf ta p0 x4_2 0 from (fun y_v k hE => k4_5 y_v (k + 1) (Or.inr (Or.inl ⟨rfl, x4_2, x4_3, rfl, rfl, rfl, rfl, rfl, Or.inr ⟨nc32, v35, e38, Or.inr ⟨nc39, Or.inr ⟨nc42, Or.inr ⟨nc45, Or.inl ⟨nc48, Or.inl ⟨nc50, Or.inr ⟨nc52, z54, ez54, v56, e59, Or.inl ⟨nc60, hE⟩⟩⟩⟩⟩⟩⟩⟩⟩)))) (show 2*((tf 5).toInt-x4_2.toInt)+(0 : Int) < (n_4 : Int) from by first | exact oz_e06991e3fb hm k4_3 nc32 | omega) hw (lv_sub hl [2, 3, 4, 0] rfl))
                    · have nc60 : v56.toInt = (42 : Int) := (i_eq (x := v56) (y := 42)).mp c60
                      refine lv_iload_n S.x S.b d_Mpg_skip_112 rfl (lv_at hl 3 rfl) ?_
                      refine lv_iconst (v := 2) S.x S.b d_Mpg_skip_113 (by decide) ?_
                      refine lv_iadd S.x S.b d_Mpg_skip_114 ?_
                      refine lv_topi (fun z62 ez62 => ?_)
                      have tz62 : z62.toInt = (x4_2.toInt + (2 : Int) + 2147483648) % 4294967296 - 2147483648 := by rw [ez62]; exact i_add x4_2 2
                      have lz62 := Int32.le_toInt z62
                      have uz62 := Int32.toInt_lt z62
                      try replace tz62 : z62.toInt = x4_2.toInt + (2 : Int) := by omega
                      refine lv_istore (lv' := [(5, .int z62), (4, .int v35), (0, .ref h), (1, .int p0), (2, .int x4_2), (3, .int x4_3)]) S.x S.b d_Mpg_skip_115 hl (by decide) rfl (fun ls hl => ?_)
                      first | exact J117 (((tf 5).toInt+3-z62.toInt).toNat + 1) x4_2 x4_3 z62 _ _ ls (show x4_2.toInt = x4_2.toInt from rfl) (show x4_2.toInt < (tf 5).toInt from (oz_f6d24a90ef tz54 nc60 e57)) (show x4_2.toInt+2 ≤ z62.toInt from (oz_07b5f84571 tz62)) (show z62.toInt ≤ (tf 5).toInt+2 from (oz_6d110efbf9 k4_1 tz62)) (show x4_3.toInt = 1 from (oz_79534a8250 k4_4 k4_3 nc32)) (show 2*((tf 5).toInt-x4_2.toInt)+1 < (n_4 : Int) + 1 from (oz_5647a554af hm k4_3 nc32)) (show K_mp_skip_117 tf ta p0 x4_2 x4_3 z62 from (fun y_v k hE => k4_5 y_v (k + 1) (Or.inr (Or.inl ⟨rfl, x4_2, x4_3, rfl, rfl, rfl, rfl, rfl, Or.inr ⟨nc32, v35, e38, Or.inr ⟨nc39, Or.inr ⟨nc42, Or.inr ⟨nc45, Or.inl ⟨nc48, Or.inl ⟨nc50, Or.inr ⟨nc52, z54, ez54, v56, e59, Or.inr ⟨nc60, z62, ez62, hE⟩⟩⟩⟩⟩⟩⟩⟩⟩)))) (show (tf 5).toInt+3-z62.toInt < (((((tf 5).toInt+3-z62.toInt).toNat + 1 : Nat) : Int) : Int) from oz_natlt) hw (lv_sub hl [2, 3, 4, 5, 0] rfl) | (exact J117 (((tf 5).toInt+3-z62.toInt).toNat + 1) x4_2 x4_3 z62 _ _ ls (show x4_2.toInt = x4_2.toInt from rfl) (show x4_2.toInt < (tf 5).toInt from by first | exact oz_f6d24a90ef tz54 nc60 e57 | omega) (show x4_2.toInt+2 ≤ z62.toInt from by first | exact oz_07b5f84571 tz62 | omega) (show z62.toInt ≤ (tf 5).toInt+2 from by first | exact oz_6d110efbf9 k4_1 tz62 | omega) (show x4_3.toInt = 1 from by first | exact oz_79534a8250 k4_4 k4_3 nc32 | omega) (show 2*((tf 5).toInt-x4_2.toInt)+1 < (n_4 : Int) + 1 from by first | exact oz_5647a554af hm k4_3 nc32 | omega) (show K_mp_skip_117 tf ta p0 x4_2 x4_3 z62 from (fun y_v k hE => k4_5 y_v (k + 1) (Or.inr (Or.inl ⟨rfl, x4_2, x4_3, rfl, rfl, rfl, rfl, rfl, Or.inr ⟨nc32, v35, e38, Or.inr ⟨nc39, Or.inr ⟨nc42, Or.inr ⟨nc45, Or.inl ⟨nc48, Or.inl ⟨nc50, Or.inr ⟨nc52, z54, ez54, v56, e59, Or.inr ⟨nc60, z62, ez62, hE⟩⟩⟩⟩⟩⟩⟩⟩⟩)))) (show (tf 5).toInt+3-z62.toInt < (((((tf 5).toInt+3-z62.toInt).toNat + 1 : Nat) : Int) : Int) from by first | exact oz_natlt | omega) hw (lv_sub hl [2, 3, 4, 5, 0] rfl))
                · have nc50 : v35.toInt = (47 : Int) := (i_eq (x := v35) (y := 47)).mp c50
                  refine lv_aload_n S.x S.b d_Mpg_skip_56 rfl (lv_at hl 1 rfl) ?_
                  refine lv_iload_n S.x S.b d_Mpg_skip_57 rfl (lv_at hl 3 rfl) ?_
                  refine lv_iconst (v := 1) S.x S.b d_Mpg_skip_58 (by decide) ?_
                  refine lv_iadd S.x S.b d_Mpg_skip_59 ?_
                  refine lv_topi (fun z63 ez63 => ?_)
                  have tz63 : z63.toInt = (x4_2.toInt + (1 : Int) + 2147483648) % 4294967296 - 2147483648 := by rw [ez63]; exact i_add x4_2 1
                  have lz63 := Int32.le_toInt z63
                  have uz63 := Int32.toInt_lt z63
                  try replace tz63 : z63.toInt = x4_2.toInt + (1 : Int) := by omega
                  first | refine px_calli (pr := []) (px_runV (As := [.int z63]) (rest := []) S (c_mp_byteAt l D cs h r g tf ta pf na ma wa cf ca ef ea xf xa z63  (show 0 ≤ (tf 5).toInt from g0) (show (tf 5).toInt ≤ 2048 from g1) (show 0 ≤ z63.toInt from (oz_b3b25f0e49 tz63 k4_0)) _) hT (pr := []) (pcs := [wdP cs h r g tf ta pf na ma wa cf ca ef ea xf xa]) hw px_X.tt (px_recv hT hw 0 0 rfl rfl rfl) m11_142 m11_139 m11_141 ms_7_15 m1_21 q_Mpg_byteAt ⟨Nat.le_of_ble_eq_true rfl, Nat.le_of_ble_eq_true rfl⟩ hl.1 rfl (Nat.le_of_ble_eq_true rfl) d_Mpg_skip_60 ⟨Nat.le_of_ble_eq_true rfl, Nat.le_of_ble_eq_true rfl⟩) hw hA (fun v65 p64 H locs hp64 hw => ?_) | (refine px_calli (pr := []) (px_runV (As := [.int z63]) (rest := []) S (c_mp_byteAt l D cs h r g tf ta pf na ma wa cf ca ef ea xf xa z63  (show 0 ≤ (tf 5).toInt from by first | exact g0 | omega) (show (tf 5).toInt ≤ 2048 from by first | exact g1 | omega) (show 0 ≤ z63.toInt from by first | exact oz_b3b25f0e49 tz63 k4_0 | omega) _) hT (pr := []) (pcs := [wdP cs h r g tf ta pf na ma wa cf ca ef ea xf xa]) hw px_X.tt (px_recv hT hw 0 0 rfl rfl rfl) m11_142 m11_139 m11_141 ms_7_15 m1_21 q_Mpg_byteAt ⟨Nat.le_of_ble_eq_true rfl, Nat.le_of_ble_eq_true rfl⟩ hl.1 rfl (Nat.le_of_ble_eq_true rfl) d_Mpg_skip_60 ⟨Nat.le_of_ble_eq_true rfl, Nat.le_of_ble_eq_true rfl⟩) hw hA (fun v65 p64 H locs hp64 hw => ?_))
                  obtain ⟨rfl, e66, e67, e68⟩ := hp64
                  have e66 : z63.toInt < (tf 5).toInt ∨ v65.toInt = -1 := e66
                  have e67 : BtV ta (tf 5).toInt z63.toInt v65.toInt := e67
                  have e68 : R_mp_byteAt tf ta z63 v65 := e68
                  have lv65 := Int32.le_toInt v65
                  have uv65 := Int32.toInt_lt v65
                  refine lv_bipush (v := 47) S.x S.b d_Mpg_skip_63 (by decide) ?_
                  refine lv_icmp_ne (tgt := 93) S.x S.b d_Mpg_skip_65 (by decide) (fun c69 => ?_) (fun c69 => ?_)
                  · have nc69 : ¬ v65.toInt = (47 : Int) := mt (i_eq (x := v65) (y := 47)).mpr c69
                    refine lv_iload S.x S.b d_Mpg_skip_93 (lv_at hl 0 rfl) ?_
                    refine lv_bipush (v := 47) S.x S.b d_Mpg_skip_95 (by decide) ?_
                    refine lv_icmp_ne (tgt := 188) S.x S.b d_Mpg_skip_97 (by decide) (fun c71 => ?_) (fun c71 => ?_)
                    · have nc71 : ¬ v35.toInt = (47 : Int) := mt (i_eq (x := v35) (y := 47)).mpr c71
                      refine lv_iconst (v := 0) S.x S.b d_Mpg_skip_188 (by decide) ?_
                      refine lv_istore_n (lv' := [(3, .int 0), (4, .int v35), (0, .ref h), (1, .int p0), (2, .int x4_2)]) S.x S.b d_Mpg_skip_189 rfl hl (by decide) rfl (fun ls hl => ?_)
                      refine lv_goto (tgt := 4) S.x S.b d_Mpg_skip_190 (by decide) ?_
                      first | exact ih4 x4_2 (0 : Int32) _ _ ls (show 0 ≤ x4_2.toInt from k4_0) (show x4_2.toInt ≤ (tf 5).toInt from k4_1) (show p0.toInt ≤ x4_2.toInt from k4_2) (show 0 ≤ (0 : Int) from oz_5a341f00aa) (show (0 : Int) ≤ 1 from oz_6e68cd0f48) (show K_mp_skip_4 tf ta p0 x4_2 0 from (fun y_v k hE => k4_5 y_v (k + 1) (Or.inr (Or.inl ⟨rfl, x4_2, x4_3, rfl, rfl, rfl, rfl, rfl, Or.inr ⟨nc32, v35, e38, Or.inr ⟨nc39, Or.inr ⟨nc42, Or.inr ⟨nc45, Or.inl ⟨nc48, Or.inr ⟨nc50, z63, ez63, v65, e68, Or.inl ⟨nc69, Or.inl ⟨nc71, hE⟩⟩⟩⟩⟩⟩⟩⟩⟩)))) (show 2*((tf 5).toInt-x4_2.toInt)+(0 : Int) < (n_4 : Int) from (oz_e06991e3fb hm k4_3 nc32)) hw (lv_sub hl [2, 3, 4, 0] rfl) | (exact ih4 x4_2 (0 : Int32) _ _ ls (show 0 ≤ x4_2.toInt from by first | exact k4_0 | omega) (show x4_2.toInt ≤ (tf 5).toInt from by first | exact k4_1 | omega) (show p0.toInt ≤ x4_2.toInt from by first | exact k4_2 | omega) (show 0 ≤ (0 : Int) from by first | exact oz_5a341f00aa | omega) (show (0 : Int) ≤ 1 from by first | exact oz_6e68cd0f48 | omega) (show K_mp_skip_4 tf ta p0 x4_2 0 from (fun y_v k hE => k4_5 y_v (k + 1) (Or.inr (Or.inl ⟨rfl, x4_2, x4_3, rfl, rfl, rfl, rfl, rfl, Or.inr ⟨nc32, v35, e38, Or.inr ⟨nc39, Or.inr ⟨nc42, Or.inr ⟨nc45, Or.inl ⟨nc48, Or.inr ⟨nc50, z63, ez63, v65, e68, Or.inl ⟨nc69, Or.inl ⟨nc71, hE⟩⟩⟩⟩⟩⟩⟩⟩⟩)))) (show 2*((tf 5).toInt-x4_2.toInt)+(0 : Int) < (n_4 : Int) from by first | exact oz_e06991e3fb hm k4_3 nc32 | omega) hw (lv_sub hl [2, 3, 4, 0] rfl))
                    · have nc71 : v35.toInt = (47 : Int) := (i_eq (x := v35) (y := 47)).mp c71
                      refine lv_aload_n S.x S.b d_Mpg_skip_100 rfl (lv_at hl 1 rfl) ?_
                      refine lv_iload_n S.x S.b d_Mpg_skip_101 rfl (lv_at hl 3 rfl) ?_
                      refine lv_iconst (v := 1) S.x S.b d_Mpg_skip_102 (by decide) ?_
                      refine lv_iadd S.x S.b d_Mpg_skip_103 ?_
                      refine lv_topi (fun z73 ez73 => ?_)
                      have tz73 : z73.toInt = (x4_2.toInt + (1 : Int) + 2147483648) % 4294967296 - 2147483648 := by rw [ez73]; exact i_add x4_2 1
                      have lz73 := Int32.le_toInt z73
                      have uz73 := Int32.toInt_lt z73
                      try replace tz73 : z73.toInt = x4_2.toInt + (1 : Int) := by omega
                      first | refine px_calli (pr := []) (px_runV (As := [.int z73]) (rest := []) S (c_mp_byteAt l D cs h r g tf ta pf na ma wa cf ca ef ea xf xa z73  (show 0 ≤ (tf 5).toInt from g0) (show (tf 5).toInt ≤ 2048 from g1) (show 0 ≤ z73.toInt from (oz_b3b25f0e49 tz73 k4_0)) _) hT (pr := []) (pcs := [wdP cs h r g tf ta pf na ma wa cf ca ef ea xf xa]) hw px_X.tt (px_recv hT hw 0 0 rfl rfl rfl) m11_142 m11_139 m11_141 ms_7_15 m1_21 q_Mpg_byteAt ⟨Nat.le_of_ble_eq_true rfl, Nat.le_of_ble_eq_true rfl⟩ hl.1 rfl (Nat.le_of_ble_eq_true rfl) d_Mpg_skip_104 ⟨Nat.le_of_ble_eq_true rfl, Nat.le_of_ble_eq_true rfl⟩) hw hA (fun v75 p74 H locs hp74 hw => ?_) | (refine px_calli (pr := []) (px_runV (As := [.int z73]) (rest := []) S (c_mp_byteAt l D cs h r g tf ta pf na ma wa cf ca ef ea xf xa z73  (show 0 ≤ (tf 5).toInt from by first | exact g0 | omega) (show (tf 5).toInt ≤ 2048 from by first | exact g1 | omega) (show 0 ≤ z73.toInt from by first | exact oz_b3b25f0e49 tz73 k4_0 | omega) _) hT (pr := []) (pcs := [wdP cs h r g tf ta pf na ma wa cf ca ef ea xf xa]) hw px_X.tt (px_recv hT hw 0 0 rfl rfl rfl) m11_142 m11_139 m11_141 ms_7_15 m1_21 q_Mpg_byteAt ⟨Nat.le_of_ble_eq_true rfl, Nat.le_of_ble_eq_true rfl⟩ hl.1 rfl (Nat.le_of_ble_eq_true rfl) d_Mpg_skip_104 ⟨Nat.le_of_ble_eq_true rfl, Nat.le_of_ble_eq_true rfl⟩) hw hA (fun v75 p74 H locs hp74 hw => ?_))
                      obtain ⟨rfl, e76, e77, e78⟩ := hp74
                      have e76 : z73.toInt < (tf 5).toInt ∨ v75.toInt = -1 := e76
                      have e77 : BtV ta (tf 5).toInt z73.toInt v75.toInt := e77
                      have e78 : R_mp_byteAt tf ta z73 v75 := e78
                      have lv75 := Int32.le_toInt v75
                      have uv75 := Int32.toInt_lt v75
                      refine lv_bipush (v := 42) S.x S.b d_Mpg_skip_107 (by decide) ?_
                      refine lv_icmp_ne (tgt := 188) S.x S.b d_Mpg_skip_109 (by decide) (fun c79 => ?_) (fun c79 => ?_)
                      · have nc79 : ¬ v75.toInt = (42 : Int) := mt (i_eq (x := v75) (y := 42)).mpr c79
                        refine lv_iconst (v := 0) S.x S.b d_Mpg_skip_188 (by decide) ?_
                        refine lv_istore_n (lv' := [(3, .int 0), (4, .int v35), (0, .ref h), (1, .int p0), (2, .int x4_2)]) S.x S.b d_Mpg_skip_189 rfl hl (by decide) rfl (fun ls hl => ?_)
                        refine lv_goto (tgt := 4) S.x S.b d_Mpg_skip_190 (by decide) ?_
                        first | exact ih4 x4_2 (0 : Int32) _ _ ls (show 0 ≤ x4_2.toInt from k4_0) (show x4_2.toInt ≤ (tf 5).toInt from k4_1) (show p0.toInt ≤ x4_2.toInt from k4_2) (show 0 ≤ (0 : Int) from oz_5a341f00aa) (show (0 : Int) ≤ 1 from oz_6e68cd0f48) (show K_mp_skip_4 tf ta p0 x4_2 0 from (fun y_v k hE => k4_5 y_v (k + 1) (Or.inr (Or.inl ⟨rfl, x4_2, x4_3, rfl, rfl, rfl, rfl, rfl, Or.inr ⟨nc32, v35, e38, Or.inr ⟨nc39, Or.inr ⟨nc42, Or.inr ⟨nc45, Or.inl ⟨nc48, Or.inr ⟨nc50, z63, ez63, v65, e68, Or.inl ⟨nc69, Or.inr ⟨nc71, z73, ez73, v75, e78, Or.inl ⟨nc79, hE⟩⟩⟩⟩⟩⟩⟩⟩⟩⟩)))) (show 2*((tf 5).toInt-x4_2.toInt)+(0 : Int) < (n_4 : Int) from (oz_e06991e3fb hm k4_3 nc32)) hw (lv_sub hl [2, 3, 4, 0] rfl) | (exact ih4 x4_2 (0 : Int32) _ _ ls (show 0 ≤ x4_2.toInt from by first | exact k4_0 | omega) (show x4_2.toInt ≤ (tf 5).toInt from by first | exact k4_1 | omega) (show p0.toInt ≤ x4_2.toInt from by first | exact k4_2 | omega) (show 0 ≤ (0 : Int) from by first | exact oz_5a341f00aa | omega) (show (0 : Int) ≤ 1 from by first | exact oz_6e68cd0f48 | omega) (show K_mp_skip_4 tf ta p0 x4_2 0 from (fun y_v k hE => k4_5 y_v (k + 1) (Or.inr (Or.inl ⟨rfl, x4_2, x4_3, rfl, rfl, rfl, rfl, rfl, Or.inr ⟨nc32, v35, e38, Or.inr ⟨nc39, Or.inr ⟨nc42, Or.inr ⟨nc45, Or.inl ⟨nc48, Or.inr ⟨nc50, z63, ez63, v65, e68, Or.inl ⟨nc69, Or.inr ⟨nc71, z73, ez73, v75, e78, Or.inl ⟨nc79, hE⟩⟩⟩⟩⟩⟩⟩⟩⟩⟩)))) (show 2*((tf 5).toInt-x4_2.toInt)+(0 : Int) < (n_4 : Int) from by first | exact oz_e06991e3fb hm k4_3 nc32 | omega) hw (lv_sub hl [2, 3, 4, 0] rfl))
                      · have nc79 : v75.toInt = (42 : Int) := (i_eq (x := v75) (y := 42)).mp c79
                        refine lv_iload_n S.x S.b d_Mpg_skip_112 rfl (lv_at hl 3 rfl) ?_
                        refine lv_iconst (v := 2) S.x S.b d_Mpg_skip_113 (by decide) ?_
                        refine lv_iadd S.x S.b d_Mpg_skip_114 ?_
                        refine lv_topi (fun z81 ez81 => ?_)
                        have tz81 : z81.toInt = (x4_2.toInt + (2 : Int) + 2147483648) % 4294967296 - 2147483648 := by rw [ez81]; exact i_add x4_2 2
                        have lz81 := Int32.le_toInt z81
                        have uz81 := Int32.toInt_lt z81
                        try replace tz81 : z81.toInt = x4_2.toInt + (2 : Int) := by omega
                        refine lv_istore (lv' := [(5, .int z81), (4, .int v35), (0, .ref h), (1, .int p0), (2, .int x4_2), (3, .int x4_3)]) S.x S.b d_Mpg_skip_115 hl (by decide) rfl (fun ls hl => ?_)
                        first | exact J117 (((tf 5).toInt+3-z81.toInt).toNat + 1) x4_2 x4_3 z81 _ _ ls (show x4_2.toInt = x4_2.toInt from rfl) (show x4_2.toInt < (tf 5).toInt from (oz_f6d24a90ef tz73 nc79 e76)) (show x4_2.toInt+2 ≤ z81.toInt from (oz_07b5f84571 tz81)) (show z81.toInt ≤ (tf 5).toInt+2 from (oz_6d110efbf9 k4_1 tz81)) (show x4_3.toInt = 1 from (oz_79534a8250 k4_4 k4_3 nc32)) (show 2*((tf 5).toInt-x4_2.toInt)+1 < (n_4 : Int) + 1 from (oz_5647a554af hm k4_3 nc32)) (show K_mp_skip_117 tf ta p0 x4_2 x4_3 z81 from (fun y_v k hE => k4_5 y_v (k + 1) (Or.inr (Or.inl ⟨rfl, x4_2, x4_3, rfl, rfl, rfl, rfl, rfl, Or.inr ⟨nc32, v35, e38, Or.inr ⟨nc39, Or.inr ⟨nc42, Or.inr ⟨nc45, Or.inl ⟨nc48, Or.inr ⟨nc50, z63, ez63, v65, e68, Or.inl ⟨nc69, Or.inr ⟨nc71, z73, ez73, v75, e78, Or.inr ⟨nc79, z81, ez81, hE⟩⟩⟩⟩⟩⟩⟩⟩⟩⟩)))) (show (tf 5).toInt+3-z81.toInt < (((((tf 5).toInt+3-z81.toInt).toNat + 1 : Nat) : Int) : Int) from oz_natlt) hw (lv_sub hl [2, 3, 4, 5, 0] rfl) | (exact J117 (((tf 5).toInt+3-z81.toInt).toNat + 1) x4_2 x4_3 z81 _ _ ls (show x4_2.toInt = x4_2.toInt from rfl) (show x4_2.toInt < (tf 5).toInt from by first | exact oz_f6d24a90ef tz73 nc79 e76 | omega) (show x4_2.toInt+2 ≤ z81.toInt from by first | exact oz_07b5f84571 tz81 | omega) (show z81.toInt ≤ (tf 5).toInt+2 from by first | exact oz_6d110efbf9 k4_1 tz81 | omega) (show x4_3.toInt = 1 from by first | exact oz_79534a8250 k4_4 k4_3 nc32 | omega) (show 2*((tf 5).toInt-x4_2.toInt)+1 < (n_4 : Int) + 1 from by first | exact oz_5647a554af hm k4_3 nc32 | omega) (show K_mp_skip_117 tf ta p0 x4_2 x4_3 z81 from (fun y_v k hE => k4_5 y_v (k + 1) (Or.inr (Or.inl ⟨rfl, x4_2, x4_3, rfl, rfl, rfl, rfl, rfl, Or.inr ⟨nc32, v35, e38, Or.inr ⟨nc39, Or.inr ⟨nc42, Or.inr ⟨nc45, Or.inl ⟨nc48, Or.inr ⟨nc50, z63, ez63, v65, e68, Or.inl ⟨nc69, Or.inr ⟨nc71, z73, ez73, v75, e78, Or.inr ⟨nc79, z81, ez81, hE⟩⟩⟩⟩⟩⟩⟩⟩⟩⟩)))) (show (tf 5).toInt+3-z81.toInt < (((((tf 5).toInt+3-z81.toInt).toNat + 1 : Nat) : Int) : Int) from by first | exact oz_natlt | omega) hw (lv_sub hl [2, 3, 4, 5, 0] rfl))
                  · have nc69 : v65.toInt = (47 : Int) := (i_eq (x := v65) (y := 47)).mp c69
                    first | exact J68 (((tf 5).toInt-x4_2.toInt+1).toNat + 1) x4_2 x4_3 _ _ ls (show 0 ≤ x4_2.toInt from k4_0) (show x4_2.toInt ≤ (tf 5).toInt from k4_1) (show p0.toInt ≤ x4_2.toInt from k4_2) (show x4_3.toInt = 1 from (oz_79534a8250 k4_4 k4_3 nc32)) (show x4_2.toInt ≤ x4_2.toInt from oz_1cb5f934a5) (show x4_2.toInt < (tf 5).toInt from (oz_8a875c4039 tz63 nc69 e66)) (show 2*((tf 5).toInt-x4_2.toInt)+1 < (n_4 : Int) + 1 from (oz_5647a554af hm k4_3 nc32)) (show SkL ta (tf 5).toInt x4_2.toInt x4_2.toInt from (by first | exact Or.inl (by omega) | exact skl_0 (by assumption) (by omega))) (show K_mp_skip_68 tf ta p0 x4_2 x4_3 from (fun y_v k hE => k4_5 y_v (k + 1) (Or.inr (Or.inl ⟨rfl, x4_2, x4_3, rfl, rfl, rfl, rfl, rfl, Or.inr ⟨nc32, v35, e38, Or.inr ⟨nc39, Or.inr ⟨nc42, Or.inr ⟨nc45, Or.inl ⟨nc48, Or.inr ⟨nc50, z63, ez63, v65, e68, Or.inr ⟨nc69, hE⟩⟩⟩⟩⟩⟩⟩⟩)))) (show (tf 5).toInt-x4_2.toInt+1 < (((((tf 5).toInt-x4_2.toInt+1).toNat + 1 : Nat) : Int) : Int) from oz_natlt) hw (lv_sub hl [1, 2, 3, 4] rfl) | (exact J68 (((tf 5).toInt-x4_2.toInt+1).toNat + 1) x4_2 x4_3 _ _ ls (show 0 ≤ x4_2.toInt from by first | exact k4_0 | omega) (show x4_2.toInt ≤ (tf 5).toInt from by first | exact k4_1 | omega) (show p0.toInt ≤ x4_2.toInt from by first | exact k4_2 | omega) (show x4_3.toInt = 1 from by first | exact oz_79534a8250 k4_4 k4_3 nc32 | omega) (show x4_2.toInt ≤ x4_2.toInt from by first | exact oz_1cb5f934a5 | omega) (show x4_2.toInt < (tf 5).toInt from by first | exact oz_8a875c4039 tz63 nc69 e66 | omega) (show 2*((tf 5).toInt-x4_2.toInt)+1 < (n_4 : Int) + 1 from by first | exact oz_5647a554af hm k4_3 nc32 | omega) (show SkL ta (tf 5).toInt x4_2.toInt x4_2.toInt from (by first | exact Or.inl (by omega) | exact skl_0 (by assumption) (by omega))) (show K_mp_skip_68 tf ta p0 x4_2 x4_3 from (fun y_v k hE => k4_5 y_v (k + 1) (Or.inr (Or.inl ⟨rfl, x4_2, x4_3, rfl, rfl, rfl, rfl, rfl, Or.inr ⟨nc32, v35, e38, Or.inr ⟨nc39, Or.inr ⟨nc42, Or.inr ⟨nc45, Or.inl ⟨nc48, Or.inr ⟨nc50, z63, ez63, v65, e68, Or.inr ⟨nc69, hE⟩⟩⟩⟩⟩⟩⟩⟩)))) (show (tf 5).toInt-x4_2.toInt+1 < (((((tf 5).toInt-x4_2.toInt+1).toNat + 1 : Nat) : Int) : Int) from by first | exact oz_natlt | omega) hw (lv_sub hl [1, 2, 3, 4] rfl))
              · have nc48 : v35.toInt = (13 : Int) := (i_eq (x := v35) (y := 13)).mp c48
                obtain ⟨z82, ez82⟩ : ∃ y : Int32, y = x4_2 + 1 := ⟨_, rfl⟩
                have tz82 : z82.toInt = (x4_2.toInt + 1 + 2147483648) % 4294967296 - 2147483648 := by rw [ez82]; exact i_add x4_2 1
                have lz82 := Int32.le_toInt z82
                have uz82 := Int32.toInt_lt z82
                try replace tz82 : z82.toInt = x4_2.toInt + 1 := by omega
                refine lv_iinc (v := z82) (lv' := [(2, .int z82), (4, .int v35), (0, .ref h), (1, .int p0), (3, .int x4_3)]) S.x S.b d_Mpg_skip_43 hl (k := 3) rfl (by rw [ez82]; rfl) (by decide) rfl (fun ls hl => ?_)
                refine lv_goto (tgt := 190) S.x S.b d_Mpg_skip_46 (by decide) ?_
                refine lv_goto (tgt := 4) S.x S.b d_Mpg_skip_190 (by decide) ?_
                first | exact ih4 z82 x4_3 _ _ ls (show 0 ≤ z82.toInt from (oz_ae613611c0 tz82 k4_0)) (show z82.toInt ≤ (tf 5).toInt from (oz_e4b697ca97 tz82 nc48 e36)) (show p0.toInt ≤ z82.toInt from (oz_887c409de9 k4_2 tz82)) (show 0 ≤ x4_3.toInt from k4_3) (show x4_3.toInt ≤ 1 from k4_4) (show K_mp_skip_4 tf ta p0 z82 x4_3 from (fun y_v k hE => k4_5 y_v (k + 1) (Or.inr (Or.inl ⟨rfl, x4_2, x4_3, rfl, rfl, rfl, rfl, rfl, Or.inr ⟨nc32, v35, e38, Or.inr ⟨nc39, Or.inr ⟨nc42, Or.inr ⟨nc45, Or.inr ⟨nc48, z82, ez82, hE⟩⟩⟩⟩⟩⟩)))) (show 2*((tf 5).toInt-z82.toInt)+x4_3.toInt < (n_4 : Int) from (oz_03013327c6 hm tz82)) hw (lv_sub hl [2, 3, 0, 4] rfl) | (exact ih4 z82 x4_3 _ _ ls (show 0 ≤ z82.toInt from by first | exact oz_ae613611c0 tz82 k4_0 | omega) (show z82.toInt ≤ (tf 5).toInt from by first | exact oz_e4b697ca97 tz82 nc48 e36 | omega) (show p0.toInt ≤ z82.toInt from by first | exact oz_887c409de9 k4_2 tz82 | omega) (show 0 ≤ x4_3.toInt from by first | exact k4_3 | omega) (show x4_3.toInt ≤ 1 from by first | exact k4_4 | omega) (show K_mp_skip_4 tf ta p0 z82 x4_3 from (fun y_v k hE => k4_5 y_v (k + 1) (Or.inr (Or.inl ⟨rfl, x4_2, x4_3, rfl, rfl, rfl, rfl, rfl, Or.inr ⟨nc32, v35, e38, Or.inr ⟨nc39, Or.inr ⟨nc42, Or.inr ⟨nc45, Or.inr ⟨nc48, z82, ez82, hE⟩⟩⟩⟩⟩⟩)))) (show 2*((tf 5).toInt-z82.toInt)+x4_3.toInt < (n_4 : Int) from by first | exact oz_03013327c6 hm tz82 | omega) hw (lv_sub hl [2, 3, 0, 4] rfl))
  refine lv_iload_n S.x S.b d_Mpg_skip_0 rfl (lv_at hl 1 rfl) ?_
  refine lv_istore_n (lv' := [(2, .int p0), (0, .ref h), (1, .int p0)]) S.x S.b d_Mpg_skip_1 rfl hl (by decide) rfl (fun ls hl => ?_)
  refine lv_iconst (v := 1) S.x S.b d_Mpg_skip_2 (by decide) ?_
  refine lv_istore_n (lv' := [(3, .int 1), (2, .int p0), (0, .ref h), (1, .int p0)]) S.x S.b d_Mpg_skip_3 rfl hl (by decide) rfl (fun ls hl => ?_)
  first | exact J4 ((2*((tf 5).toInt-p0.toInt)+(1 : Int)).toNat + 1) p0 (1 : Int32) _ _ ls (show 0 ≤ p0.toInt from g2) (show p0.toInt ≤ (tf 5).toInt from g3) (show p0.toInt ≤ p0.toInt from oz_1cb5f934a5) (show 0 ≤ (1 : Int) from oz_19c3a41681) (show (1 : Int) ≤ 1 from oz_f9181dc4bb) (show K_mp_skip_4 tf ta p0 p0 1 from (fun y_v k hE => Exists.intro (k + 1) (Or.inl ⟨rfl, hE⟩))) (show 2*((tf 5).toInt-p0.toInt)+(1 : Int) < ((((2*((tf 5).toInt-p0.toInt)+(1 : Int)).toNat + 1 : Nat) : Int) : Int) from oz_natlt) hw (lv_sub hl [2, 3, 1, 0] rfl) | (exact J4 ((2*((tf 5).toInt-p0.toInt)+(1 : Int)).toNat + 1) p0 (1 : Int32) _ _ ls (show 0 ≤ p0.toInt from by first | exact g2 | omega) (show p0.toInt ≤ (tf 5).toInt from by first | exact g3 | omega) (show p0.toInt ≤ p0.toInt from by first | exact oz_1cb5f934a5 | omega) (show 0 ≤ (1 : Int) from by first | exact oz_19c3a41681 | omega) (show (1 : Int) ≤ 1 from by first | exact oz_f9181dc4bb | omega) (show K_mp_skip_4 tf ta p0 p0 1 from (fun y_v k hE => Exists.intro (k + 1) (Or.inl ⟨rfl, hE⟩))) (show 2*((tf 5).toInt-p0.toInt)+(1 : Int) < ((((2*((tf 5).toInt-p0.toInt)+(1 : Int)).toNat + 1 : Nat) : Int) : Int) from by first | exact oz_natlt | omega) hw (lv_sub hl [2, 3, 1, 0] rfl))
abbrev b_Mpg_stands : ByteArray := prog_16_method_9_code
def y_Mpg_stands : MethodName := ⟨"HomeSystemModel$Program", "stands", "(ILjava/lang/String;)Z"⟩
theorem d_Mpg_stands_0 : decode b_Mpg_stands 0 = .ok (.iconst 1, 1) := by decide +kernel
theorem d_Mpg_stands_1 : decode b_Mpg_stands 1 = .ok (.istore_n 3, 1) := by decide +kernel
theorem d_Mpg_stands_2 : decode b_Mpg_stands 2 = .ok (.iconst 0, 1) := by decide +kernel
theorem d_Mpg_stands_3 : decode b_Mpg_stands 3 = .ok (.istore 4, 2) := by decide +kernel
theorem d_Mpg_stands_5 : decode b_Mpg_stands 5 = .ok (.iload 4, 2) := by decide +kernel
theorem d_Mpg_stands_7 : decode b_Mpg_stands 7 = .ok (.aload_n 2, 1) := by decide +kernel
theorem d_Mpg_stands_8 : decode b_Mpg_stands 8 = .ok (.invokevirtual 307, 3) := by decide +kernel
theorem d_Mpg_stands_11 : decode b_Mpg_stands 11 = .ok (.if_icmp .ge 36, 3) := by decide +kernel
theorem d_Mpg_stands_14 : decode b_Mpg_stands 14 = .ok (.iload_n 3, 1) := by decide +kernel
theorem d_Mpg_stands_15 : decode b_Mpg_stands 15 = .ok (.ifCond .eq 32, 3) := by decide +kernel
theorem d_Mpg_stands_18 : decode b_Mpg_stands 18 = .ok (.aload_n 0, 1) := by decide +kernel
theorem d_Mpg_stands_19 : decode b_Mpg_stands 19 = .ok (.iload_n 1, 1) := by decide +kernel
theorem d_Mpg_stands_20 : decode b_Mpg_stands 20 = .ok (.iload 4, 2) := by decide +kernel
theorem d_Mpg_stands_22 : decode b_Mpg_stands 22 = .ok (.iadd, 1) := by decide +kernel
theorem d_Mpg_stands_23 : decode b_Mpg_stands 23 = .ok (.invokevirtual 300, 3) := by decide +kernel
theorem d_Mpg_stands_26 : decode b_Mpg_stands 26 = .ok (.aload_n 2, 1) := by decide +kernel
theorem d_Mpg_stands_27 : decode b_Mpg_stands 27 = .ok (.iload 4, 2) := by decide +kernel
theorem d_Mpg_stands_29 : decode b_Mpg_stands 29 = .ok (.invokevirtual 310, 3) := by decide +kernel
theorem d_Mpg_stands_32 : decode b_Mpg_stands 32 = .ok (.if_icmp .ne 7, 3) := by decide +kernel
theorem d_Mpg_stands_35 : decode b_Mpg_stands 35 = .ok (.iconst 1, 1) := by decide +kernel
theorem d_Mpg_stands_36 : decode b_Mpg_stands 36 = .ok (.goto 4, 3) := by decide +kernel
theorem d_Mpg_stands_39 : decode b_Mpg_stands 39 = .ok (.iconst 0, 1) := by decide +kernel
theorem d_Mpg_stands_40 : decode b_Mpg_stands 40 = .ok (.istore_n 3, 1) := by decide +kernel
theorem d_Mpg_stands_41 : decode b_Mpg_stands 41 = .ok (.iinc 4 1, 3) := by decide +kernel
theorem d_Mpg_stands_44 : decode b_Mpg_stands 44 = .ok (.goto (-39), 3) := by decide +kernel
theorem d_Mpg_stands_47 : decode b_Mpg_stands 47 = .ok (.iload_n 3, 1) := by decide +kernel
theorem d_Mpg_stands_48 : decode b_Mpg_stands 48 = .ok (.ireturn, 1) := by decide +kernel
theorem q_Mpg_stands : px_y y_Mpg_stands 2 := by unfold px_y; decide +kernel
set_option maxHeartbeats 4000000 in
set_option maxRecDepth 100000 in
theorem c_mp_standsS (l : Launch) (D : va_G) (cs : Nat → ClassId) (sk : Nat) (sn : Nat) (sb : Nat → Int32) (h : Nat) (r : Nat → Nat) (g : Nat → Nat → Option Nat) (tf : Nat → Int32) (ta : Nat → Nat → Int32) (pf : Nat → Int32) (na : Nat → Nat → Int32) (ma : Nat → Nat → Int32) (wa : Nat → Nat → Int32) (cf : Nat → Int32) (ca : Nat → Nat → Int32) (ef : Nat → Int32) (ea : Nat → Nat → Int32) (xf : Nat → Int32) (xa : Nat → Nat → Int32) (p0 : Int32)  (g0 : 0 ≤ (tf 5).toInt) (g1 : (tf 5).toInt ≤ 2048) (g2 : 0 ≤ p0.toInt) (g3 : p0.toInt ≤ 4000) (g4 : sn ≤ 100) : MetI l y_Mpg_stands b_Mpg_stands 5 (.boolean) D cs 4 130 (0) (0) [.ref h, .int p0, .ref sk] [wdP cs h r g tf ta pf na ma wa cf ca ef ea xf xa] (oX (fun A U H => (oP A g U H) ∧ (StLt A sk sn sb U H)) [wdP cs h r g tf ta pf na ma wa cf ca ef ea xf xa]) (fun v ps => (ps = [wdP cs h r g tf ta pf na ma wa cf ca ef ea xf xa]) ∧ (v = 0 ∨ v = 1) ∧ (v.toInt = 1 → p0.toInt + (sn : Int) ≤ (tf 5).toInt ∨ (sn : Int) = 0) ∧ (R_mp_standsS sn sb tf ta p0 v)) := by
  refine px_enter (by decide) (Nat.le_of_ble_eq_true rfl) ?_
  intro p e s m below meth c A ls hAe S hr hlk hnm hA hT hX hw hl
  have hl : lv_has ls 5 [(0, .ref h), (1, .int p0), (2, .ref sk)] := hl
  have lp0 := Int32.le_toInt p0
  have up0 := Int32.toInt_lt p0
  have cst0 : (0 : Int32).toInt = 0 := rfl
  have cst1 : (1 : Int32).toInt = 1 := rfl
  have hX : (fun A U H => (oP A g U H) ∧ (StLt A sk sn sb U H)) A s s.heap := by rw [hAe]; exact hX
  obtain ⟨hP, hQ0⟩ := hX
  obtain ⟨st0, hQ1⟩ := hQ0
  have hZ := hP.1
  have hF0 := hP.2.1
  have J5 : ∀ (n_5 : Nat)  (x5_3 x5_4 : Int32) (H : Heap) (locs : List Loc) (ls : Array Slot), (0 ≤ x5_3.toInt) → (x5_3.toInt ≤ 1) → (0 ≤ x5_4.toInt) → (x5_4.toInt ≤ (sn : Int)) → (x5_3.toInt = 1 → x5_4.toInt = 0 ∨ p0.toInt + x5_4.toInt ≤ (tf 5).toInt) → (K_mp_standsS_5 sn sb tf ta p0 x5_3 x5_4) → (sn : Int) - x5_4.toInt + 1 < (n_5 : Int) → pw D A s.heap H locs [wdP cs h r g tf ta pf na ma wa cf ca ef ea xf xa] → lv_has ls 5 [(0, .ref h), (1, .int p0), (2, .ref sk), (3, .int x5_3), (4, .int x5_4)] → W p l e { frames := 4, cells := 0, slots := 0, locals := 130 } s m [.ref h, .int p0, .ref sk].toArray below meth c H locs 0 0 (MQ below (va_Qi (fun v ps => (ps = [wdP cs h r g tf ta pf na ma wa cf ca ef ea xf xa]) ∧ (v = 0 ∨ v = 1) ∧ (v.toInt = 1 → p0.toInt + (sn : Int) ≤ (tf 5).toInt ∨ (sn : Int) = 0) ∧ (R_mp_standsS sn sb tf ta p0 v)) (pc_B D (va_A ([wdP cs h r g tf ta pf na ma wa cf ca ef ea xf xa] : List va_W).flatten s.heap.size)) (va_A ([wdP cs h r g tf ta pf na ma wa cf ca ef ea xf xa] : List va_W).flatten s.heap.size)) [.ref h, .int p0, .ref sk].toArray s 0 0 A) (F0 m 5 ls []) := by
    intro  n_5
    induction n_5 with
    | zero =>
      intro x5_3 x5_4 H locs ls k5_0 k5_1 k5_2 k5_3 k5_4 k5_5 hm hw hl
      have lx5_3 := Int32.le_toInt x5_3
      have ux5_3 := Int32.toInt_lt x5_3
      have lx5_4 := Int32.le_toInt x5_4
      have ux5_4 := Int32.toInt_lt x5_4
      exact absurd hm (by omega)
    | succ n_5 ih5 =>
      intro x5_3 x5_4 H locs ls k5_0 k5_1 k5_2 k5_3 k5_4 k5_5 hm hw hl
      have lx5_3 := Int32.le_toInt x5_3
      have ux5_3 := Int32.toInt_lt x5_3
      have lx5_4 := Int32.le_toInt x5_4
      have ux5_4 := Int32.toInt_lt x5_4
      refine lv_iload S.x S.b d_Mpg_stands_5 (lv_at hl 4 rfl) ?_
      refine lv_aload_n S.x S.b d_Mpg_stands_7 rfl (lv_at hl 2 rfl) ?_
      first | refine px_calli (pr := [wdP cs h r g tf ta pf na ma wa cf ca ef ea xf xa]) (px_runV (As := []) (rest := [.int x5_4]) S (c_String_length l D cs sk st0 sn sb   (show sn ≤ 1000000 from (oz_202527c70a g4)) _) hT (pr := [wdP cs h r g tf ta pf na ma wa cf ca ef ea xf xa]) (pcs := []) hw (oX_call (P := (fun A U H => (oZ A U H) ∧ (oS A sk st0 sn sb U H))) (pr := [wdP cs h r g tf ta pf na ma wa cf ca ef ea xf xa]) (oG_and oG_Z oG_S) hw hA ⟨hZ, hQ1⟩) (oS_recv hw hQ1) m1_58 m11_157 m1_56 m1_57 m1_3 q_String_length ⟨Nat.le_of_ble_eq_true rfl, Nat.le_of_ble_eq_true rfl⟩ hl.1 rfl (Nat.le_of_ble_eq_true rfl) d_Mpg_stands_8 ⟨Nat.le_of_ble_eq_true rfl, Nat.le_of_ble_eq_true rfl⟩) hw hA (fun v2 p1 H locs hp1 hw => ?_) | (refine px_calli (pr := [wdP cs h r g tf ta pf na ma wa cf ca ef ea xf xa]) (px_runV (As := []) (rest := [.int x5_4]) S (c_String_length l D cs sk st0 sn sb   (show sn ≤ 1000000 from by first | exact oz_202527c70a g4 | omega) _) hT (pr := [wdP cs h r g tf ta pf na ma wa cf ca ef ea xf xa]) (pcs := []) hw (oX_call (P := (fun A U H => (oZ A U H) ∧ (oS A sk st0 sn sb U H))) (pr := [wdP cs h r g tf ta pf na ma wa cf ca ef ea xf xa]) (oG_and oG_Z oG_S) hw hA ⟨hZ, hQ1⟩) (oS_recv hw hQ1) m1_58 m11_157 m1_56 m1_57 m1_3 q_String_length ⟨Nat.le_of_ble_eq_true rfl, Nat.le_of_ble_eq_true rfl⟩ hl.1 rfl (Nat.le_of_ble_eq_true rfl) d_Mpg_stands_8 ⟨Nat.le_of_ble_eq_true rfl, Nat.le_of_ble_eq_true rfl⟩) hw hA (fun v2 p1 H locs hp1 hw => ?_))
      obtain ⟨rfl, e3, e4⟩ := hp1
      have e3 : v2.toInt = (sn : Int) := e3
      have e4 : R_String_length sn v2 := e4
      have lv2 := Int32.le_toInt v2
      have uv2 := Int32.toInt_lt v2
      refine lv_icmp_ge (tgt := 47) S.x S.b d_Mpg_stands_11 (by decide) (fun c5 => ?_) (fun c5 => ?_)
      · have nc5 : v2.toInt ≤ x5_4.toInt := (i_le (x := v2) (y := x5_4)).mp c5
        refine lv_iload_n S.x S.b d_Mpg_stands_47 rfl (lv_at hl 3 rfl) ?_
        exact px_iret (v := x5_3) S hr (z_nar (by omega)) hlk hAe hw (Nat.le_of_ble_eq_true rfl) (Nat.le_of_ble_eq_true rfl) (⟨rfl, (show x5_3 = 0 ∨ x5_3 = 1 from by first | exact Or.inl rfl | exact Or.inr rfl | exact z_or (by omega)), (show x5_3.toInt = 1 → p0.toInt + (sn : Int) ≤ (tf 5).toInt ∨ (sn : Int) = 0 from by omega), (show R_mp_standsS sn sb tf ta p0 x5_3 from (k5_5 _ 1 (Or.inr (Or.inl ⟨rfl, x5_3, x5_4, rfl, rfl, rfl, rfl, rfl, v2, e4, Or.inl ⟨nc5, rfl⟩⟩))))⟩) d_Mpg_stands_48
      · have nc5 : ¬ v2.toInt ≤ x5_4.toInt := mt (i_le (x := v2) (y := x5_4)).mpr c5
        refine lv_iload_n S.x S.b d_Mpg_stands_14 rfl (lv_at hl 3 rfl) ?_
        refine lv_if_eq (tgt := 47) S.x S.b d_Mpg_stands_15 (by decide) (fun c7 => ?_) (fun c7 => ?_)
        · have nc7 : x5_3.toInt = (0 : Int) := (i_eq (x := x5_3) (y := 0)).mp c7
          refine lv_iload_n S.x S.b d_Mpg_stands_47 rfl (lv_at hl 3 rfl) ?_
          exact px_iret (v := x5_3) S hr (z_nar (by omega)) hlk hAe hw (Nat.le_of_ble_eq_true rfl) (Nat.le_of_ble_eq_true rfl) (⟨rfl, (show x5_3 = 0 ∨ x5_3 = 1 from by first | exact Or.inl rfl | exact Or.inr rfl | exact z_or (by omega)), (show x5_3.toInt = 1 → p0.toInt + (sn : Int) ≤ (tf 5).toInt ∨ (sn : Int) = 0 from by omega), (show R_mp_standsS sn sb tf ta p0 x5_3 from (k5_5 _ 1 (Or.inr (Or.inl ⟨rfl, x5_3, x5_4, rfl, rfl, rfl, rfl, rfl, v2, e4, Or.inr ⟨nc5, Or.inl ⟨nc7, rfl⟩⟩⟩))))⟩) d_Mpg_stands_48
        · have nc7 : ¬ x5_3.toInt = (0 : Int) := mt (i_eq (x := x5_3) (y := 0)).mpr c7
          refine lv_aload_n S.x S.b d_Mpg_stands_18 rfl (lv_at hl 0 rfl) ?_
          refine lv_iload_n S.x S.b d_Mpg_stands_19 rfl (lv_at hl 1 rfl) ?_
          refine lv_iload S.x S.b d_Mpg_stands_20 (lv_at hl 4 rfl) ?_
          refine lv_iadd S.x S.b d_Mpg_stands_22 ?_
          refine lv_topi (fun z9 ez9 => ?_)
          have tz9 : z9.toInt = (p0.toInt + x5_4.toInt + 2147483648) % 4294967296 - 2147483648 := by rw [ez9]; exact i_add p0 x5_4
          have lz9 := Int32.le_toInt z9
          have uz9 := Int32.toInt_lt z9
          try replace tz9 : z9.toInt = p0.toInt + x5_4.toInt := by omega
          first | refine px_calli (pr := []) (px_runV (As := [.int z9]) (rest := []) S (c_mp_byteAt l D cs h r g tf ta pf na ma wa cf ca ef ea xf xa z9  (show 0 ≤ (tf 5).toInt from g0) (show (tf 5).toInt ≤ 2048 from g1) (show 0 ≤ z9.toInt from (oz_58f944d8b2 tz9 g2 k5_2)) _) hT (pr := []) (pcs := [wdP cs h r g tf ta pf na ma wa cf ca ef ea xf xa]) hw px_X.tt (px_recv hT hw 0 0 rfl rfl rfl) m11_142 m11_139 m11_141 ms_7_15 m1_21 q_Mpg_byteAt ⟨Nat.le_of_ble_eq_true rfl, Nat.le_of_ble_eq_true rfl⟩ hl.1 rfl (Nat.le_of_ble_eq_true rfl) d_Mpg_stands_23 ⟨Nat.le_of_ble_eq_true rfl, Nat.le_of_ble_eq_true rfl⟩) hw hA (fun v11 p10 H locs hp10 hw => ?_) | (refine px_calli (pr := []) (px_runV (As := [.int z9]) (rest := []) S (c_mp_byteAt l D cs h r g tf ta pf na ma wa cf ca ef ea xf xa z9  (show 0 ≤ (tf 5).toInt from by first | exact g0 | omega) (show (tf 5).toInt ≤ 2048 from by first | exact g1 | omega) (show 0 ≤ z9.toInt from by first | exact oz_58f944d8b2 tz9 g2 k5_2 | omega) _) hT (pr := []) (pcs := [wdP cs h r g tf ta pf na ma wa cf ca ef ea xf xa]) hw px_X.tt (px_recv hT hw 0 0 rfl rfl rfl) m11_142 m11_139 m11_141 ms_7_15 m1_21 q_Mpg_byteAt ⟨Nat.le_of_ble_eq_true rfl, Nat.le_of_ble_eq_true rfl⟩ hl.1 rfl (Nat.le_of_ble_eq_true rfl) d_Mpg_stands_23 ⟨Nat.le_of_ble_eq_true rfl, Nat.le_of_ble_eq_true rfl⟩) hw hA (fun v11 p10 H locs hp10 hw => ?_))
          obtain ⟨rfl, e12, e13, e14⟩ := hp10
          have e12 : z9.toInt < (tf 5).toInt ∨ v11.toInt = -1 := e12
          have e13 : BtV ta (tf 5).toInt z9.toInt v11.toInt := e13
          have e14 : R_mp_byteAt tf ta z9 v11 := e14
          have lv11 := Int32.le_toInt v11
          have uv11 := Int32.toInt_lt v11
          refine lv_aload_n S.x S.b d_Mpg_stands_26 rfl (lv_at hl 2 rfl) ?_
          refine lv_iload S.x S.b d_Mpg_stands_27 (lv_at hl 4 rfl) ?_
          first | refine px_calli (pr := [wdP cs h r g tf ta pf na ma wa cf ca ef ea xf xa]) (px_runV (As := [.int x5_4]) (rest := [.int v11]) S (c_String_charAt l D cs sk st0 sn sb x5_4  (show sn ≤ 1000000 from (oz_202527c70a g4)) (show 0 ≤ x5_4.toInt from k5_2) (show x5_4.toInt < (sn : Int) from (oz_56467b673d e3 nc5)) _) hT (pr := [wdP cs h r g tf ta pf na ma wa cf ca ef ea xf xa]) (pcs := []) hw (oX_call (P := (fun A U H => (oF A U H) ∧ (oZ A U H) ∧ (oS A sk st0 sn sb U H))) (pr := [wdP cs h r g tf ta pf na ma wa cf ca ef ea xf xa]) (oG_and oG_F (oG_and oG_Z oG_S)) hw hA ⟨hF0, hZ, hQ1⟩) (oS_recv hw hQ1) m1_68 m11_162 m1_66 m1_67 m1_3 q_String_charAt ⟨Nat.le_of_ble_eq_true rfl, Nat.le_of_ble_eq_true rfl⟩ hl.1 rfl (Nat.le_of_ble_eq_true rfl) d_Mpg_stands_29 ⟨Nat.le_of_ble_eq_true rfl, Nat.le_of_ble_eq_true rfl⟩) hw hA (fun v16 p15 H locs hp15 hw => ?_) | (refine px_calli (pr := [wdP cs h r g tf ta pf na ma wa cf ca ef ea xf xa]) (px_runV (As := [.int x5_4]) (rest := [.int v11]) S (c_String_charAt l D cs sk st0 sn sb x5_4  (show sn ≤ 1000000 from by first | exact oz_202527c70a g4 | omega) (show 0 ≤ x5_4.toInt from by first | exact k5_2 | omega) (show x5_4.toInt < (sn : Int) from by first | exact oz_56467b673d e3 nc5 | omega) _) hT (pr := [wdP cs h r g tf ta pf na ma wa cf ca ef ea xf xa]) (pcs := []) hw (oX_call (P := (fun A U H => (oF A U H) ∧ (oZ A U H) ∧ (oS A sk st0 sn sb U H))) (pr := [wdP cs h r g tf ta pf na ma wa cf ca ef ea xf xa]) (oG_and oG_F (oG_and oG_Z oG_S)) hw hA ⟨hF0, hZ, hQ1⟩) (oS_recv hw hQ1) m1_68 m11_162 m1_66 m1_67 m1_3 q_String_charAt ⟨Nat.le_of_ble_eq_true rfl, Nat.le_of_ble_eq_true rfl⟩ hl.1 rfl (Nat.le_of_ble_eq_true rfl) d_Mpg_stands_29 ⟨Nat.le_of_ble_eq_true rfl, Nat.le_of_ble_eq_true rfl⟩) hw hA (fun v16 p15 H locs hp15 hw => ?_))
          obtain ⟨rfl, e17, e18⟩ := hp15
          have e17 : narrow .char (.int v16) = .int v16 := e17
          have e18 : R_String_charAt sb x5_4 v16 := e18
          have lv16 := Int32.le_toInt v16
          have uv16 := Int32.toInt_lt v16
          have hch := nc_rng (v := v16) (by assumption)
          refine lv_icmp_ne (tgt := 39) S.x S.b d_Mpg_stands_32 (by decide) (fun c19 => ?_) (fun c19 => ?_)
          · have nc19 : ¬ v11.toInt = v16.toInt := mt (i_eq (x := v11) (y := v16)).mpr c19
            refine lv_iconst (v := 0) S.x S.b d_Mpg_stands_39 (by decide) ?_
            refine lv_istore_n (lv' := [(3, .int 0), (0, .ref h), (1, .int p0), (2, .ref sk), (4, .int x5_4)]) S.x S.b d_Mpg_stands_40 rfl hl (by decide) rfl (fun ls hl => ?_)
            obtain ⟨z21, ez21⟩ : ∃ y : Int32, y = x5_4 + 1 := ⟨_, rfl⟩
            have tz21 : z21.toInt = (x5_4.toInt + 1 + 2147483648) % 4294967296 - 2147483648 := by rw [ez21]; exact i_add x5_4 1
            have lz21 := Int32.le_toInt z21
            have uz21 := Int32.toInt_lt z21
            try replace tz21 : z21.toInt = x5_4.toInt + 1 := by omega
            refine lv_iinc (v := z21) (lv' := [(4, .int z21), (3, .int 0), (0, .ref h), (1, .int p0), (2, .ref sk)]) S.x S.b d_Mpg_stands_41 hl (k := 4) rfl (by rw [ez21]; rfl) (by decide) rfl (fun ls hl => ?_)
            refine lv_goto (tgt := 5) S.x S.b d_Mpg_stands_44 (by decide) ?_
            first | exact ih5 (0 : Int32) z21 _ _ ls (show 0 ≤ (0 : Int) from oz_5a341f00aa) (show (0 : Int) ≤ 1 from oz_6e68cd0f48) (show 0 ≤ z21.toInt from (oz_ae613611c0 tz21 k5_2)) (show z21.toInt ≤ (sn : Int) from (oz_b5917379a1 e3 tz21 nc5)) (show (0 : Int) = 1 → z21.toInt = 0 ∨ p0.toInt + z21.toInt ≤ (tf 5).toInt from by omega) (show K_mp_standsS_5 sn sb tf ta p0 0 z21 from (fun y_v k hE => k5_5 y_v (k + 1) (Or.inr (Or.inl ⟨rfl, x5_3, x5_4, rfl, rfl, rfl, rfl, rfl, v2, e4, Or.inr ⟨nc5, Or.inr ⟨nc7, z9, ez9, v11, e14, v16, e18, Or.inl ⟨nc19, z21, ez21, hE⟩⟩⟩⟩)))) (show (sn : Int) - z21.toInt + 1 < (n_5 : Int) from (oz_917a48507a hm tz21)) hw (lv_sub hl [2, 3, 4, 1, 0] rfl) | (exact ih5 (0 : Int32) z21 _ _ ls (show 0 ≤ (0 : Int) from by first | exact oz_5a341f00aa | omega) (show (0 : Int) ≤ 1 from by first | exact oz_6e68cd0f48 | omega) (show 0 ≤ z21.toInt from by first | exact oz_ae613611c0 tz21 k5_2 | omega) (show z21.toInt ≤ (sn : Int) from by first | exact oz_b5917379a1 e3 tz21 nc5 | omega) (show (0 : Int) = 1 → z21.toInt = 0 ∨ p0.toInt + z21.toInt ≤ (tf 5).toInt from by omega) (show K_mp_standsS_5 sn sb tf ta p0 0 z21 from (fun y_v k hE => k5_5 y_v (k + 1) (Or.inr (Or.inl ⟨rfl, x5_3, x5_4, rfl, rfl, rfl, rfl, rfl, v2, e4, Or.inr ⟨nc5, Or.inr ⟨nc7, z9, ez9, v11, e14, v16, e18, Or.inl ⟨nc19, z21, ez21, hE⟩⟩⟩⟩)))) (show (sn : Int) - z21.toInt + 1 < (n_5 : Int) from by first | exact oz_917a48507a hm tz21 | omega) hw (lv_sub hl [2, 3, 4, 1, 0] rfl))
          · have nc19 : v11.toInt = v16.toInt := (i_eq (x := v11) (y := v16)).mp c19
            refine lv_iconst (v := 1) S.x S.b d_Mpg_stands_35 (by decide) ?_
            refine lv_goto (tgt := 40) S.x S.b d_Mpg_stands_36 (by decide) ?_
            refine lv_istore_n (lv' := [(3, .int 1), (0, .ref h), (1, .int p0), (2, .ref sk), (4, .int x5_4)]) S.x S.b d_Mpg_stands_40 rfl hl (by decide) rfl (fun ls hl => ?_)
            obtain ⟨z22, ez22⟩ : ∃ y : Int32, y = x5_4 + 1 := ⟨_, rfl⟩
            have tz22 : z22.toInt = (x5_4.toInt + 1 + 2147483648) % 4294967296 - 2147483648 := by rw [ez22]; exact i_add x5_4 1
            have lz22 := Int32.le_toInt z22
            have uz22 := Int32.toInt_lt z22
            try replace tz22 : z22.toInt = x5_4.toInt + 1 := by omega
            refine lv_iinc (v := z22) (lv' := [(4, .int z22), (3, .int 1), (0, .ref h), (1, .int p0), (2, .ref sk)]) S.x S.b d_Mpg_stands_41 hl (k := 4) rfl (by rw [ez22]; rfl) (by decide) rfl (fun ls hl => ?_)
            refine lv_goto (tgt := 5) S.x S.b d_Mpg_stands_44 (by decide) ?_
            first | exact ih5 (1 : Int32) z22 _ _ ls (show 0 ≤ (1 : Int) from oz_19c3a41681) (show (1 : Int) ≤ 1 from oz_f9181dc4bb) (show 0 ≤ z22.toInt from (oz_ae613611c0 tz22 k5_2)) (show z22.toInt ≤ (sn : Int) from (oz_b5917379a1 e3 tz22 nc5)) (show (1 : Int) = 1 → z22.toInt = 0 ∨ p0.toInt + z22.toInt ≤ (tf 5).toInt from by omega) (show K_mp_standsS_5 sn sb tf ta p0 1 z22 from (fun y_v k hE => k5_5 y_v (k + 1) (Or.inr (Or.inl ⟨rfl, x5_3, x5_4, rfl, rfl, rfl, rfl, rfl, v2, e4, Or.inr ⟨nc5, Or.inr ⟨nc7, z9, ez9, v11, e14, v16, e18, Or.inr ⟨nc19, z22, ez22, hE⟩⟩⟩⟩)))) (show (sn : Int) - z22.toInt + 1 < (n_5 : Int) from (oz_917a48507a hm tz22)) hw (lv_sub hl [2, 3, 4, 1, 0] rfl) | (exact ih5 (1 : Int32) z22 _ _ ls (show 0 ≤ (1 : Int) from by first | exact oz_19c3a41681 | omega) (show (1 : Int) ≤ 1 from by first | exact oz_f9181dc4bb | omega) (show 0 ≤ z22.toInt from by first | exact oz_ae613611c0 tz22 k5_2 | omega) (show z22.toInt ≤ (sn : Int) from by first | exact oz_b5917379a1 e3 tz22 nc5 | omega) (show (1 : Int) = 1 → z22.toInt = 0 ∨ p0.toInt + z22.toInt ≤ (tf 5).toInt from by omega) (show K_mp_standsS_5 sn sb tf ta p0 1 z22 from (fun y_v k hE => k5_5 y_v (k + 1) (Or.inr (Or.inl ⟨rfl, x5_3, x5_4, rfl, rfl, rfl, rfl, rfl, v2, e4, Or.inr ⟨nc5, Or.inr ⟨nc7, z9, ez9, v11, e14, v16, e18, Or.inr ⟨nc19, z22, ez22, hE⟩⟩⟩⟩)))) (show (sn : Int) - z22.toInt + 1 < (n_5 : Int) from by first | exact oz_917a48507a hm tz22 | omega) hw (lv_sub hl [2, 3, 4, 1, 0] rfl))
  refine lv_iconst (v := 1) S.x S.b d_Mpg_stands_0 (by decide) ?_
  refine lv_istore_n (lv' := [(3, .int 1), (0, .ref h), (1, .int p0), (2, .ref sk)]) S.x S.b d_Mpg_stands_1 rfl hl (by decide) rfl (fun ls hl => ?_)
  refine lv_iconst (v := 0) S.x S.b d_Mpg_stands_2 (by decide) ?_
  refine lv_istore (lv' := [(4, .int 0), (3, .int 1), (0, .ref h), (1, .int p0), (2, .ref sk)]) S.x S.b d_Mpg_stands_3 hl (by decide) rfl (fun ls hl => ?_)
  first | exact J5 (((sn : Int) - (0 : Int) + 1).toNat + 1) (1 : Int32) (0 : Int32) _ _ ls (show 0 ≤ (1 : Int) from oz_19c3a41681) (show (1 : Int) ≤ 1 from oz_f9181dc4bb) (show 0 ≤ (0 : Int) from oz_5a341f00aa) (show (0 : Int) ≤ (sn : Int) from oz_e13db6e0da) (show (1 : Int) = 1 → (0 : Int) = 0 ∨ p0.toInt + (0 : Int) ≤ (tf 5).toInt from by omega) (show K_mp_standsS_5 sn sb tf ta p0 1 0 from (fun y_v k hE => Exists.intro (k + 1) (Or.inl ⟨rfl, hE⟩))) (show (sn : Int) - (0 : Int) + 1 < (((((sn : Int) - (0 : Int) + 1).toNat + 1 : Nat) : Int) : Int) from oz_natlt) hw (lv_sub hl [2, 3, 4, 1, 0] rfl) | (exact J5 (((sn : Int) - (0 : Int) + 1).toNat + 1) (1 : Int32) (0 : Int32) _ _ ls (show 0 ≤ (1 : Int) from by first | exact oz_19c3a41681 | omega) (show (1 : Int) ≤ 1 from by first | exact oz_f9181dc4bb | omega) (show 0 ≤ (0 : Int) from by first | exact oz_5a341f00aa | omega) (show (0 : Int) ≤ (sn : Int) from by first | exact oz_e13db6e0da | omega) (show (1 : Int) = 1 → (0 : Int) = 0 ∨ p0.toInt + (0 : Int) ≤ (tf 5).toInt from by omega) (show K_mp_standsS_5 sn sb tf ta p0 1 0 from (fun y_v k hE => Exists.intro (k + 1) (Or.inl ⟨rfl, hE⟩))) (show (sn : Int) - (0 : Int) + 1 < (((((sn : Int) - (0 : Int) + 1).toNat + 1 : Nat) : Int) : Int) from by first | exact oz_natlt | omega) hw (lv_sub hl [2, 3, 4, 1, 0] rfl))
abbrev b_Mpg_keyword : ByteArray := prog_16_method_10_code
def y_Mpg_keyword : MethodName := ⟨"HomeSystemModel$Program", "keyword", "(II)I"⟩
theorem d_Mpg_keyword_0 : decode b_Mpg_keyword 0 = .ok (.iconst 0, 1) := by decide +kernel
theorem d_Mpg_keyword_1 : decode b_Mpg_keyword 1 = .ok (.istore_n 3, 1) := by decide +kernel
theorem d_Mpg_keyword_2 : decode b_Mpg_keyword 2 = .ok (.iload_n 3, 1) := by decide +kernel
theorem d_Mpg_keyword_3 : decode b_Mpg_keyword 3 = .ok (.aload_n 0, 1) := by decide +kernel
theorem d_Mpg_keyword_4 : decode b_Mpg_keyword 4 = .ok (.getfield 41, 3) := by decide +kernel
theorem d_Mpg_keyword_7 : decode b_Mpg_keyword 7 = .ok (.arraylength, 1) := by decide +kernel
theorem d_Mpg_keyword_8 : decode b_Mpg_keyword 8 = .ok (.if_icmp .ge 38, 3) := by decide +kernel
theorem d_Mpg_keyword_11 : decode b_Mpg_keyword 11 = .ok (.aload_n 0, 1) := by decide +kernel
theorem d_Mpg_keyword_12 : decode b_Mpg_keyword 12 = .ok (.getfield 41, 3) := by decide +kernel
theorem d_Mpg_keyword_15 : decode b_Mpg_keyword 15 = .ok (.iload_n 3, 1) := by decide +kernel
theorem d_Mpg_keyword_16 : decode b_Mpg_keyword 16 = .ok (.aaload, 1) := by decide +kernel
theorem d_Mpg_keyword_17 : decode b_Mpg_keyword 17 = .ok (.invokevirtual 307, 3) := by decide +kernel
theorem d_Mpg_keyword_20 : decode b_Mpg_keyword 20 = .ok (.iload_n 2, 1) := by decide +kernel
theorem d_Mpg_keyword_21 : decode b_Mpg_keyword 21 = .ok (.if_icmp .ne 19, 3) := by decide +kernel
theorem d_Mpg_keyword_24 : decode b_Mpg_keyword 24 = .ok (.aload_n 0, 1) := by decide +kernel
theorem d_Mpg_keyword_25 : decode b_Mpg_keyword 25 = .ok (.iload_n 1, 1) := by decide +kernel
theorem d_Mpg_keyword_26 : decode b_Mpg_keyword 26 = .ok (.aload_n 0, 1) := by decide +kernel
theorem d_Mpg_keyword_27 : decode b_Mpg_keyword 27 = .ok (.getfield 41, 3) := by decide +kernel
theorem d_Mpg_keyword_30 : decode b_Mpg_keyword 30 = .ok (.iload_n 3, 1) := by decide +kernel
theorem d_Mpg_keyword_31 : decode b_Mpg_keyword 31 = .ok (.aaload, 1) := by decide +kernel
theorem d_Mpg_keyword_32 : decode b_Mpg_keyword 32 = .ok (.invokevirtual 314, 3) := by decide +kernel
theorem d_Mpg_keyword_35 : decode b_Mpg_keyword 35 = .ok (.ifCond .eq 5, 3) := by decide +kernel
theorem d_Mpg_keyword_38 : decode b_Mpg_keyword 38 = .ok (.iload_n 3, 1) := by decide +kernel
theorem d_Mpg_keyword_39 : decode b_Mpg_keyword 39 = .ok (.ireturn, 1) := by decide +kernel
theorem d_Mpg_keyword_40 : decode b_Mpg_keyword 40 = .ok (.iinc 3 1, 3) := by decide +kernel
theorem d_Mpg_keyword_43 : decode b_Mpg_keyword 43 = .ok (.goto (-41), 3) := by decide +kernel
theorem d_Mpg_keyword_46 : decode b_Mpg_keyword 46 = .ok (.iconst (-1), 1) := by decide +kernel
theorem d_Mpg_keyword_47 : decode b_Mpg_keyword 47 = .ok (.ireturn, 1) := by decide +kernel
theorem q_Mpg_keyword : px_y y_Mpg_keyword 2 := by unfold px_y; decide +kernel
set_option maxHeartbeats 4000000 in
set_option maxRecDepth 100000 in
theorem c_mp_keyword (l : Launch) (D : va_G) (cs : Nat → ClassId) (h : Nat) (r : Nat → Nat) (g : Nat → Nat → Option Nat) (tf : Nat → Int32) (ta : Nat → Nat → Int32) (pf : Nat → Int32) (na : Nat → Nat → Int32) (ma : Nat → Nat → Int32) (wa : Nat → Nat → Int32) (cf : Nat → Int32) (ca : Nat → Nat → Int32) (ef : Nat → Int32) (ea : Nat → Nat → Int32) (xf : Nat → Int32) (xa : Nat → Nat → Int32) (p0 p1 : Int32)  (g0 : 0 ≤ (tf 5).toInt) (g1 : (tf 5).toInt ≤ 2048) (g2 : 0 ≤ p0.toInt) (g3 : p0.toInt ≤ 4000) : MetI l y_Mpg_keyword b_Mpg_keyword 4 (.int) D cs 5 180 (0) (0) [.ref h, .int p0, .int p1] [wdP cs h r g tf ta pf na ma wa cf ca ef ea xf xa] (oX (fun A U H => (oP A g U H)) [wdP cs h r g tf ta pf na ma wa cf ca ef ea xf xa]) (fun v ps => (ps = [wdP cs h r g tf ta pf na ma wa cf ca ef ea xf xa]) ∧ (-1 ≤ v.toInt) ∧ (v.toInt ≤ 14) ∧ (0 ≤ v.toInt → p1.toInt = (klen v.toNatClampNeg : Int)) ∧ (R_mp_keyword tf ta p0 p1 v)) := by
  refine px_enter (by decide) (Nat.le_of_ble_eq_true rfl) ?_
  intro p e s m below meth c A ls hAe S hr hlk hnm hA hT hX hw hl
  have hl : lv_has ls 4 [(0, .ref h), (1, .int p0), (2, .int p1)] := hl
  have lp0 := Int32.le_toInt p0
  have up0 := Int32.toInt_lt p0
  have lp1 := Int32.le_toInt p1
  have up1 := Int32.toInt_lt p1
  have cstm1 : ((-1) : Int32).toInt = (-1) := rfl
  have cst0 : (0 : Int32).toInt = 0 := rfl
  have hX : (fun A U H => (oP A g U H)) A s s.heap := by rw [hAe]; exact hX
  have hP := hX
  have hZ := hP.1
  have hF0 := hP.2.1
  have J2 : ∀ (n_2 : Nat)  (x2_3 : Int32) (H : Heap) (locs : List Loc) (ls : Array Slot), (0 ≤ x2_3.toInt) → (x2_3.toInt ≤ 15) → (K_mp_keyword_2 tf ta p0 p1 x2_3) → 16 - x2_3.toInt < (n_2 : Int) → pw D A s.heap H locs [wdP cs h r g tf ta pf na ma wa cf ca ef ea xf xa] → lv_has ls 4 [(0, .ref h), (1, .int p0), (2, .int p1), (3, .int x2_3)] → W p l e { frames := 5, cells := 0, slots := 0, locals := 180 } s m [.ref h, .int p0, .int p1].toArray below meth c H locs 0 0 (MQ below (va_Qi (fun v ps => (ps = [wdP cs h r g tf ta pf na ma wa cf ca ef ea xf xa]) ∧ (-1 ≤ v.toInt) ∧ (v.toInt ≤ 14) ∧ (0 ≤ v.toInt → p1.toInt = (klen v.toNatClampNeg : Int)) ∧ (R_mp_keyword tf ta p0 p1 v)) (pc_B D (va_A ([wdP cs h r g tf ta pf na ma wa cf ca ef ea xf xa] : List va_W).flatten s.heap.size)) (va_A ([wdP cs h r g tf ta pf na ma wa cf ca ef ea xf xa] : List va_W).flatten s.heap.size)) [.ref h, .int p0, .int p1].toArray s 0 0 A) (F0 m 2 ls []) := by
    intro  n_2
    induction n_2 with
    | zero =>
      intro x2_3 H locs ls k2_0 k2_1 k2_2 hm hw hl
      have lx2_3 := Int32.le_toInt x2_3
      have ux2_3 := Int32.toInt_lt x2_3
      exact absurd hm (by omega)
    | succ n_2 ih2 =>
      intro x2_3 H locs ls k2_0 k2_1 k2_2 hm hw hl
      have lx2_3 := Int32.le_toInt x2_3
      have ux2_3 := Int32.toInt_lt x2_3
      refine lv_iload_n S.x S.b d_Mpg_keyword_2 rfl (lv_at hl 3 rfl) ?_
      refine lv_aload_n S.x S.b d_Mpg_keyword_3 rfl (lv_at hl 0 rfl) ?_
      refine gP_0 S hT hw 0 rfl m9_223 d_Mpg_keyword_4 ?_
      refine px_len S hT hw 0 1 11 rfl rfl rfl (v := 15) rfl d_Mpg_keyword_7 ?_
      refine lv_icmp_ge (tgt := 46) S.x S.b d_Mpg_keyword_8 (by decide) (fun c1 => ?_) (fun c1 => ?_)
      · have nc1 : (15 : Int) ≤ x2_3.toInt := (i_le (x := 15) (y := x2_3)).mp c1
        refine lv_iconst (v := (-1)) S.x S.b d_Mpg_keyword_46 (by decide) ?_
        first | exact px_iret (v := (-1)) S hr rfl hlk hAe hw (Nat.le_of_ble_eq_true rfl) (Nat.le_of_ble_eq_true rfl) (⟨rfl, (show -1 ≤ (-1 : Int) from oz_268d846349), (show (-1 : Int) ≤ 14 from oz_cfd75cb044), (show 0 ≤ (-1 : Int) → p1.toInt = (klen (-1 : Int32).toNatClampNeg : Int) from by omega), (show R_mp_keyword tf ta p0 p1 (-1 : Int32) from (k2_2 _ 1 (Or.inr (Or.inl ⟨rfl, x2_3, rfl, rfl, rfl, rfl, rfl, Or.inl ⟨nc1, rfl⟩⟩))))⟩) d_Mpg_keyword_47 | (exact px_iret (v := (-1)) S hr rfl hlk hAe hw (Nat.le_of_ble_eq_true rfl) (Nat.le_of_ble_eq_true rfl) (⟨rfl, (show -1 ≤ (-1 : Int) from by first | exact oz_268d846349 | omega), (show (-1 : Int) ≤ 14 from by first | exact oz_cfd75cb044 | omega), (show 0 ≤ (-1 : Int) → p1.toInt = (klen (-1 : Int32).toNatClampNeg : Int) from by omega), (show R_mp_keyword tf ta p0 p1 (-1 : Int32) from (k2_2 _ 1 (Or.inr (Or.inl ⟨rfl, x2_3, rfl, rfl, rfl, rfl, rfl, Or.inl ⟨nc1, rfl⟩⟩))))⟩) d_Mpg_keyword_47)
      · have nc1 : ¬ (15 : Int) ≤ x2_3.toInt := mt (i_le (x := 15) (y := x2_3)).mpr c1
        refine lv_aload_n S.x S.b d_Mpg_keyword_11 rfl (lv_at hl 0 rfl) ?_
        refine gP_0 S hT hw 0 rfl m9_223 d_Mpg_keyword_12 ?_
        refine lv_iload_n S.x S.b d_Mpg_keyword_15 rfl (lv_at hl 3 rfl) ?_
        first | have hclsk3 := cl_nat (x := x2_3) (k2_0) | (have hclsk3 := cl_nat (x := x2_3) (by first | exact k2_0 | omega))
        obtain ⟨sk3, hgsk3, st4, hSsk3⟩ := oP_0B hP (i := x2_3.toNatClampNeg) (by omega)
        have hmsk3 := len_0 (i := x2_3.toNatClampNeg) (by omega)
        refine px_aaldS S hT hw 0 1 11 (n := 15) (f := (g 0)) rfl rfl rfl (x := x2_3) (vp_in_iff.mpr (by first | exact oz_e53655270d k2_0 nc1 | (constructor <;> omega))) hgsk3 d_Mpg_keyword_16 ?_
        refine px_calli (pr := [wdP cs h r g tf ta pf na ma wa cf ca ef ea xf xa]) (px_runV (As := []) (rest := []) S (c_String_length l D cs sk3 st4 (klen x2_3.toNatClampNeg) (kby x2_3.toNatClampNeg)   (show (klen x2_3.toNatClampNeg) ≤ 1000000 from by omega) _) hT (pr := [wdP cs h r g tf ta pf na ma wa cf ca ef ea xf xa]) (pcs := []) hw (oX_call (P := (fun A U H => (oZ A U H) ∧ (oS A sk3 st4 (klen x2_3.toNatClampNeg) (kby x2_3.toNatClampNeg) U H))) (pr := [wdP cs h r g tf ta pf na ma wa cf ca ef ea xf xa]) (oG_and oG_Z oG_S) hw hA ⟨hZ, hSsk3⟩) (oS_recv hw hSsk3) m1_58 m11_157 m1_56 m1_57 m1_3 q_String_length ⟨Nat.le_of_ble_eq_true rfl, Nat.le_of_ble_eq_true rfl⟩ hl.1 rfl (Nat.le_of_ble_eq_true rfl) d_Mpg_keyword_17 ⟨Nat.le_of_ble_eq_true rfl, Nat.le_of_ble_eq_true rfl⟩) hw hA (fun v7 p6 H locs hp6 hw => ?_)
        obtain ⟨rfl, e8, e9⟩ := hp6
        have e8 : v7.toInt = ((klen x2_3.toNatClampNeg) : Int) := e8
        have e9 : R_String_length (klen x2_3.toNatClampNeg) v7 := e9
        have lv7 := Int32.le_toInt v7
        have uv7 := Int32.toInt_lt v7
        refine lv_iload_n S.x S.b d_Mpg_keyword_20 rfl (lv_at hl 2 rfl) ?_
        refine lv_icmp_ne (tgt := 40) S.x S.b d_Mpg_keyword_21 (by decide) (fun c10 => ?_) (fun c10 => ?_)
        · have nc10 : ¬ v7.toInt = p1.toInt := mt (i_eq (x := v7) (y := p1)).mpr c10
          obtain ⟨z12, ez12⟩ : ∃ y : Int32, y = x2_3 + 1 := ⟨_, rfl⟩
          have tz12 : z12.toInt = (x2_3.toInt + 1 + 2147483648) % 4294967296 - 2147483648 := by rw [ez12]; exact i_add x2_3 1
          have lz12 := Int32.le_toInt z12
          have uz12 := Int32.toInt_lt z12
          try replace tz12 : z12.toInt = x2_3.toInt + 1 := by omega
          refine lv_iinc (v := z12) (lv' := [(3, .int z12), (0, .ref h), (1, .int p0), (2, .int p1)]) S.x S.b d_Mpg_keyword_40 hl (k := 3) rfl (by rw [ez12]; rfl) (by decide) rfl (fun ls hl => ?_)
          refine lv_goto (tgt := 2) S.x S.b d_Mpg_keyword_43 (by decide) ?_
          first | exact ih2 z12 _ _ ls (show 0 ≤ z12.toInt from (oz_ae613611c0 tz12 k2_0)) (show z12.toInt ≤ 15 from (oz_d88e2e5bcf tz12 nc1)) (show K_mp_keyword_2 tf ta p0 p1 z12 from (fun y_v k hE => k2_2 y_v (k + 1) (Or.inr (Or.inl ⟨rfl, x2_3, rfl, rfl, rfl, rfl, rfl, Or.inr ⟨nc1, v7, e9, Or.inl ⟨nc10, z12, ez12, hE⟩⟩⟩)))) (show 16 - z12.toInt < (n_2 : Int) from (oz_80a71fb0d2 hm tz12)) hw (lv_sub hl [1, 2, 3, 0] rfl) | (exact ih2 z12 _ _ ls (show 0 ≤ z12.toInt from by first | exact oz_ae613611c0 tz12 k2_0 | omega) (show z12.toInt ≤ 15 from by first | exact oz_d88e2e5bcf tz12 nc1 | omega) (show K_mp_keyword_2 tf ta p0 p1 z12 from (fun y_v k hE => k2_2 y_v (k + 1) (Or.inr (Or.inl ⟨rfl, x2_3, rfl, rfl, rfl, rfl, rfl, Or.inr ⟨nc1, v7, e9, Or.inl ⟨nc10, z12, ez12, hE⟩⟩⟩)))) (show 16 - z12.toInt < (n_2 : Int) from by first | exact oz_80a71fb0d2 hm tz12 | omega) hw (lv_sub hl [1, 2, 3, 0] rfl))
        · have nc10 : v7.toInt = p1.toInt := (i_eq (x := v7) (y := p1)).mp c10
          refine lv_aload_n S.x S.b d_Mpg_keyword_24 rfl (lv_at hl 0 rfl) ?_
          refine lv_iload_n S.x S.b d_Mpg_keyword_25 rfl (lv_at hl 1 rfl) ?_
          refine lv_aload_n S.x S.b d_Mpg_keyword_26 rfl (lv_at hl 0 rfl) ?_
          refine gP_0 S hT hw 0 rfl m9_223 d_Mpg_keyword_27 ?_
          refine lv_iload_n S.x S.b d_Mpg_keyword_30 rfl (lv_at hl 3 rfl) ?_
          first | have hclsk13 := cl_nat (x := x2_3) (k2_0) | (have hclsk13 := cl_nat (x := x2_3) (by first | exact k2_0 | omega))
          obtain ⟨sk13, hgsk13, st14, hSsk13⟩ := oP_0B hP (i := x2_3.toNatClampNeg) (by omega)
          have hmsk13 := len_0 (i := x2_3.toNatClampNeg) (by omega)
          refine px_aaldS S hT hw 0 1 11 (n := 15) (f := (g 0)) rfl rfl rfl (x := x2_3) (vp_in_iff.mpr (by first | exact oz_e53655270d k2_0 nc1 | (constructor <;> omega))) hgsk13 d_Mpg_keyword_31 ?_
          first | refine px_calli (pr := []) (px_runV (As := [.int p0, .ref sk13]) (rest := []) S (c_mp_standsS l D cs sk13 (klen x2_3.toNatClampNeg) (kby x2_3.toNatClampNeg) h r g tf ta pf na ma wa cf ca ef ea xf xa p0  (show 0 ≤ (tf 5).toInt from g0) (show (tf 5).toInt ≤ 2048 from g1) (show 0 ≤ p0.toInt from g2) (show p0.toInt ≤ 4000 from g3) (show (klen x2_3.toNatClampNeg) ≤ 100 from by omega) _) hT (pr := []) (pcs := [wdP cs h r g tf ta pf na ma wa cf ca ef ea xf xa]) hw (oX_call (P := (fun A U H => (oP A g U H) ∧ (StLt A sk13 (klen x2_3.toNatClampNeg) (kby x2_3.toNatClampNeg) U H))) (pr := []) (oG_and oG_P oG_QB) hw hA ⟨hP, ⟨_, hSsk13⟩⟩) (px_recv hT hw 0 0 rfl rfl rfl) m11_161 m11_158 m11_160 ms_8_2 m1_21 q_Mpg_stands ⟨Nat.le_of_ble_eq_true rfl, Nat.le_of_ble_eq_true rfl⟩ hl.1 rfl (Nat.le_of_ble_eq_true rfl) d_Mpg_keyword_32 ⟨Nat.le_of_ble_eq_true rfl, Nat.le_of_ble_eq_true rfl⟩) hw hA (fun v17 p16 H locs hp16 hw => ?_) | (refine px_calli (pr := []) (px_runV (As := [.int p0, .ref sk13]) (rest := []) S (c_mp_standsS l D cs sk13 (klen x2_3.toNatClampNeg) (kby x2_3.toNatClampNeg) h r g tf ta pf na ma wa cf ca ef ea xf xa p0  (show 0 ≤ (tf 5).toInt from by first | exact g0 | omega) (show (tf 5).toInt ≤ 2048 from by first | exact g1 | omega) (show 0 ≤ p0.toInt from by first | exact g2 | omega) (show p0.toInt ≤ 4000 from by first | exact g3 | omega) (show (klen x2_3.toNatClampNeg) ≤ 100 from by omega) _) hT (pr := []) (pcs := [wdP cs h r g tf ta pf na ma wa cf ca ef ea xf xa]) hw (oX_call (P := (fun A U H => (oP A g U H) ∧ (StLt A sk13 (klen x2_3.toNatClampNeg) (kby x2_3.toNatClampNeg) U H))) (pr := []) (oG_and oG_P oG_QB) hw hA ⟨hP, ⟨_, hSsk13⟩⟩) (px_recv hT hw 0 0 rfl rfl rfl) m11_161 m11_158 m11_160 ms_8_2 m1_21 q_Mpg_stands ⟨Nat.le_of_ble_eq_true rfl, Nat.le_of_ble_eq_true rfl⟩ hl.1 rfl (Nat.le_of_ble_eq_true rfl) d_Mpg_keyword_32 ⟨Nat.le_of_ble_eq_true rfl, Nat.le_of_ble_eq_true rfl⟩) hw hA (fun v17 p16 H locs hp16 hw => ?_))
          obtain ⟨rfl, e18, e19, e20⟩ := hp16
          have e18 := z_rng e18
          have e19 : v17.toInt = 1 → p0.toInt + ((klen x2_3.toNatClampNeg) : Int) ≤ (tf 5).toInt ∨ ((klen x2_3.toNatClampNeg) : Int) = 0 := e19
          have e20 : R_mp_standsS (klen x2_3.toNatClampNeg) (kby x2_3.toNatClampNeg) tf ta p0 v17 := e20
          have lv17 := Int32.le_toInt v17
          have uv17 := Int32.toInt_lt v17
          refine lv_if_eq (tgt := 40) S.x S.b d_Mpg_keyword_35 (by decide) (fun c21 => ?_) (fun c21 => ?_)
          · have nc21 : v17.toInt = (0 : Int) := (i_eq (x := v17) (y := 0)).mp c21
            obtain ⟨z23, ez23⟩ : ∃ y : Int32, y = x2_3 + 1 := ⟨_, rfl⟩
            have tz23 : z23.toInt = (x2_3.toInt + 1 + 2147483648) % 4294967296 - 2147483648 := by rw [ez23]; exact i_add x2_3 1
            have lz23 := Int32.le_toInt z23
            have uz23 := Int32.toInt_lt z23
            try replace tz23 : z23.toInt = x2_3.toInt + 1 := by omega
            refine lv_iinc (v := z23) (lv' := [(3, .int z23), (0, .ref h), (1, .int p0), (2, .int p1)]) S.x S.b d_Mpg_keyword_40 hl (k := 3) rfl (by rw [ez23]; rfl) (by decide) rfl (fun ls hl => ?_)
            refine lv_goto (tgt := 2) S.x S.b d_Mpg_keyword_43 (by decide) ?_
            first | exact ih2 z23 _ _ ls (show 0 ≤ z23.toInt from (oz_ae613611c0 tz23 k2_0)) (show z23.toInt ≤ 15 from (oz_d88e2e5bcf tz23 nc1)) (show K_mp_keyword_2 tf ta p0 p1 z23 from (fun y_v k hE => k2_2 y_v (k + 1) (Or.inr (Or.inl ⟨rfl, x2_3, rfl, rfl, rfl, rfl, rfl, Or.inr ⟨nc1, v7, e9, Or.inr ⟨nc10, v17, e20, Or.inl ⟨nc21, z23, ez23, hE⟩⟩⟩⟩)))) (show 16 - z23.toInt < (n_2 : Int) from (oz_80a71fb0d2 hm tz23)) hw (lv_sub hl [1, 2, 3, 0] rfl) | (exact ih2 z23 _ _ ls (show 0 ≤ z23.toInt from by first | exact oz_ae613611c0 tz23 k2_0 | omega) (show z23.toInt ≤ 15 from by first | exact oz_d88e2e5bcf tz23 nc1 | omega) (show K_mp_keyword_2 tf ta p0 p1 z23 from (fun y_v k hE => k2_2 y_v (k + 1) (Or.inr (Or.inl ⟨rfl, x2_3, rfl, rfl, rfl, rfl, rfl, Or.inr ⟨nc1, v7, e9, Or.inr ⟨nc10, v17, e20, Or.inl ⟨nc21, z23, ez23, hE⟩⟩⟩⟩)))) (show 16 - z23.toInt < (n_2 : Int) from by first | exact oz_80a71fb0d2 hm tz23 | omega) hw (lv_sub hl [1, 2, 3, 0] rfl))
          · have nc21 : ¬ v17.toInt = (0 : Int) := mt (i_eq (x := v17) (y := 0)).mpr c21
            refine lv_iload_n S.x S.b d_Mpg_keyword_38 rfl (lv_at hl 3 rfl) ?_
            first | exact px_iret (v := x2_3) S hr rfl hlk hAe hw (Nat.le_of_ble_eq_true rfl) (Nat.le_of_ble_eq_true rfl) (⟨rfl, (show -1 ≤ x2_3.toInt from (oz_bd82420902 k2_0)), (show x2_3.toInt ≤ 14 from (oz_7530b11dfe nc1)), (show 0 ≤ x2_3.toInt → p1.toInt = (klen x2_3.toNatClampNeg : Int) from by omega), (show R_mp_keyword tf ta p0 p1 x2_3 from (k2_2 _ 1 (Or.inr (Or.inl ⟨rfl, x2_3, rfl, rfl, rfl, rfl, rfl, Or.inr ⟨nc1, v7, e9, Or.inr ⟨nc10, v17, e20, Or.inr ⟨nc21, rfl⟩⟩⟩⟩))))⟩) d_Mpg_keyword_39 | (exact px_iret (v := x2_3) S hr rfl hlk hAe hw (Nat.le_of_ble_eq_true rfl) (Nat.le_of_ble_eq_true rfl) (⟨rfl, (show -1 ≤ x2_3.toInt from by first | exact oz_bd82420902 k2_0 | omega), (show x2_3.toInt ≤ 14 from by first | exact oz_7530b11dfe nc1 | omega), (show 0 ≤ x2_3.toInt → p1.toInt = (klen x2_3.toNatClampNeg : Int) from by omega), (show R_mp_keyword tf ta p0 p1 x2_3 from (k2_2 _ 1 (Or.inr (Or.inl ⟨rfl, x2_3, rfl, rfl, rfl, rfl, rfl, Or.inr ⟨nc1, v7, e9, Or.inr ⟨nc10, v17, e20, Or.inr ⟨nc21, rfl⟩⟩⟩⟩))))⟩) d_Mpg_keyword_39)
  refine lv_iconst (v := 0) S.x S.b d_Mpg_keyword_0 (by decide) ?_
  refine lv_istore_n (lv' := [(3, .int 0), (0, .ref h), (1, .int p0), (2, .int p1)]) S.x S.b d_Mpg_keyword_1 rfl hl (by decide) rfl (fun ls hl => ?_)
  first | exact J2 ((16 - (0 : Int)).toNat + 1) (0 : Int32) _ _ ls (show 0 ≤ (0 : Int) from oz_5a341f00aa) (show (0 : Int) ≤ 15 from oz_57f1fa637d) (show K_mp_keyword_2 tf ta p0 p1 0 from (fun y_v k hE => Exists.intro (k + 1) (Or.inl ⟨rfl, hE⟩))) (show 16 - (0 : Int) < ((((16 - (0 : Int)).toNat + 1 : Nat) : Int) : Int) from oz_natlt) hw (lv_sub hl [1, 2, 3, 0] rfl) | (exact J2 ((16 - (0 : Int)).toNat + 1) (0 : Int32) _ _ ls (show 0 ≤ (0 : Int) from by first | exact oz_5a341f00aa | omega) (show (0 : Int) ≤ 15 from by first | exact oz_57f1fa637d | omega) (show K_mp_keyword_2 tf ta p0 p1 0 from (fun y_v k hE => Exists.intro (k + 1) (Or.inl ⟨rfl, hE⟩))) (show 16 - (0 : Int) < ((((16 - (0 : Int)).toNat + 1 : Nat) : Int) : Int) from by first | exact oz_natlt | omega) hw (lv_sub hl [1, 2, 3, 0] rfl))
