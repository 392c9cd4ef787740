theorem oz_6773c8d520 {a0 a1 a2 a3 : Int} (h0 : a0 = a1) (h1 : a1 = a2 + 1) (h2 : a2 = a3 + (1 : Int)) (h3 : 0 ≤ a3) : 0 ≤ a0 := by omega
theorem oz_d7a4949520 {a0 a1 a2 a3 a4 : Int} (h0 : a0 + a2 ≤ a3) (h1 : a1 = a4) (h2 : 1 ≤ a2) (h3 : a3 + 1 ≤ a4) : a0 + 2 ≤ a1 := by omega
theorem oz_3d27b98b25 {a0 a1 a2 a3 a4 : Int} (h0 : a0 = a1 + 1) (h1 : a1 = a2) (h2 : 0 ≤ a3) (h3 : a4 = a3 + (1 : Int)) (h4 : a2 = a4 + 1) : 0 ≤ a0 := by omega
theorem oz_e5933a4a2c {a0 a1 a2 a3 : Int} (h0 : a0 = a1 + 1) (h1 : a1 = a2) (h2 : a2 = a3) (h3 : 0 ≤ a3) : 1 ≤ a0 := by omega
theorem oz_95ed43b5eb {a0 a1 a2 a3 a4 a5 : Int} (h0 : a2 = a0 + (1 : Int)) (h1 : a1 = a3 + 1) (h2 : a4 = a2 + 1) (h3 : a3 = a5 + 1) (h4 : a5 = a4) : a0 + 1 ≤ a1 := by omega
theorem oz_68556fc0a8 {a0 a1 a2 a3 a4 : Int} (h0 : a2 = a0) (h1 : a1 = a3) (h2 : a4 = a2 + 1) (h3 : a3 = a4) : a0 + 1 ≤ a1 := by omega
theorem oz_853f55781e {a0 a1 a2 a3 a4 a5 a6 a7 a8 a9 a10 : Int} (h0 : a4 = a3 + (1 : Int)) (h1 : a5 = a1) (h2 : a2 = a6 + 1) (h3 : a0 = a7) (h4 : a8 = a4 + 1) (h5 : a9 = a5 + 1) (h6 : a6 = a10 + 1) (h7 : a7 = a9) (h8 : a10 = a8) : a0 - a1 ≤ a2 - a3 := by omega
theorem oz_49b4adb997 {a0 a1 a2 a3 a4 a5 a6 a7 : Int} (h0 : a0 + a2 ≤ a3) (h1 : a4 + 1 ≤ a1) (h2 : 1 ≤ a2) (h3 : a3 + 1 ≤ a5) (h4 : a6 + a7 ≤ a4) (h5 : a6 = a5) (h6 : 1 ≤ a7) : a0 + 1 ≤ a1 := by omega
theorem oz_a3348d681e {a0 a1 a2 a3 a4 : Int} (h0 : a2 = a1) (h1 : a0 = a3 - 1) (h2 : a4 = a2) (h3 : a3 = a4 + 1) : a0 = a1 := by omega
theorem oz_806f2fa6e8 {a0 a1 a2 a3 a4 a5 a6 a7 : Int} (h0 : a0 + a2 ≤ a3) (h1 : a4 + 1 ≤ a1) (h2 : 1 ≤ a2) (h3 : a3 + 1 ≤ a5) (h4 : a6 + a7 ≤ a4) (h5 : a6 = a5) (h6 : 1 ≤ a7) : a0 + 2 ≤ a1 := by omega
theorem oz_443389b263 {a0 : Int} (h0 : a0 = 1) : a0 ≤ 60 := by omega
theorem oz_ec982f3f0b {a0 a1 a2 a3 a4 a5 a6 a7 a8 a9 : Int} (h0 : a0 = a1) (h1 : a1 = a2) (h2 : a2 = a3) (h3 : a3 < a4) (h4 : a4 ≤ a5 + 10) (h5 : a5 + 2 ≤ a6) (h6 : a7 = a6 + 1) (h7 : a8 ≤ 2049) (h8 : a9 = a7 + 1) (h9 : a9 < a8) : a0 < 2100 := by omega
theorem oz_e70fca6503 {a0 a1 a2 a3 a4 : Int} (h0 : a0 + 2 ≤ a2) (h1 : a1 = a3) (h2 : a4 = a2 + 1) (h3 : a3 = a4 + 1) : a0 + 1 ≤ a1 := by omega
theorem oz_64d5401b2c {a0 a1 a2 a3 a4 a5 : Int} (h0 : a2 = a0) (h1 : a1 = a3) (h2 : a2 < a4) (h3 : a5 = a4) (h4 : a3 = a5) : a0 ≤ a1 := by omega
theorem oz_34b08d2b77 {a0 a1 a2 a3 a4 a5 a6 a7 a8 a9 : Int} (h0 : a4 - a1 ≤ a5 - a3) (h1 : a2 = a6) (h2 : a0 = a7) (h3 : a8 = a5 + 1) (h4 : a9 = a4) (h5 : a6 = a8 + 1) (h6 : a7 = a9) : a0 - a1 ≤ a2 - a3 := by omega
theorem oz_5d911a48a2 {a0 a1 a2 a3 a4 : Int} (h0 : a0 + 2 ≤ a2) (h1 : a1 = a3) (h2 : a2 + 1 ≤ a4) (h3 : a4 + 1 ≤ a3) : a0 + 1 ≤ a1 := by omega
theorem oz_f68b379cbf {a0 a1 a2 a3 : Int} (h0 : a0 = a1) (h1 : a1 = a2) (h2 : a2 = a3 - 1) (h3 : a3 = 1) : a0 = 0 := by omega
theorem oz_5e358525a3 {a0 a1 a2 a3 : Int} (h0 : a0 = a1) (h1 : a1 = a2) (h2 : a2 = a3) (h3 : a3 = 0) : a0 = 0 := by omega
theorem oz_b23efdd26a {a0 a1 a2 : Int} (h0 : a0 = a1) (h1 : a1 = a2) (h2 : 0 ≤ a2) : -1 ≤ a0 := by omega
theorem oz_0a92d61c1d {a0 a1 a2 a3 a4 a5 : Int} (h0 : a1 = a2) (h1 : a0 = a3) (h2 : a3 < a4) (h3 : a2 = a5) (h4 : a5 = a4) : a0 < a1 := by omega
theorem oz_7b8a9e084a {a0 a1 a2 a3 a4 a5 a6 : Int} (h0 : a0 = a1) (h1 : a1 - a2 ≤ a3 - a4) (h2 : a2 ≤ a4 + 10) (h3 : a5 = a3 + 1) (h4 : a6 ≤ 2049) (h5 : a5 < a6) : a0 < 2100 := by omega
theorem oz_951c320703 {a0 a1 a2 a3 : Int} (h0 : a0 = a1) (h1 : a1 = a2 + 1) (h2 : a3 + 2 ≤ a2) (h3 : 0 ≤ a3) : 0 ≤ a0 := by omega
theorem oz_779f263daf {a0 a1 a2 a3 a4 a5 : Int} (h0 : a0 = a1) (h1 : 0 ≤ a1) (h2 : a1 ≤ a2 + 10) (h3 : a2 + 2 ≤ a3) (h4 : a4 = a3 + 1) (h5 : a5 ≤ 2049) (h6 : a4 < a5) : 0 ≤ a0 ∧ a0 < ((2100 : Nat) : Int) := by omega
theorem oz_fa92019150 {a0 a1 a2 a3 a4 a5 a6 : Int} (h0 : a0 < a1) (h1 : a1 - a2 ≤ a3 - a4) (h2 : a2 ≤ a4 + 10) (h3 : a5 = a3 + 1) (h4 : a6 ≤ 2049) (h5 : a5 < a6) : a0 < 2100 := by omega
theorem oz_b1ffee609c {a0 a1 a2 a3 a4 a5 : Int} (h0 : a0 = a1 + a2) (h1 : a1 = a3) (h2 : 0 ≤ a2) (h3 : 0 ≤ a4) (h4 : a4 + 2 ≤ a5) (h5 : a3 = a5 + 1) : 0 ≤ a0 := by omega
theorem oz_b0dd40d105 {a0 a1 a2 a3 a4 : Int} (h0 : a0 = a1) (h1 : a1 = a2) (h2 : a2 = a3) (h3 : a3 = a4) (h4 : a4 = 1) : a0 = 1 := by omega
theorem oz_79fbce337c {a0 a1 a2 a3 a4 : Int} (h0 : a0 = a1) (h1 : a1 = a2) (h2 : a2 = a3) (h3 : a3 = a4) (h4 : a4 = 0) : a0 = 0 := by omega
theorem oz_9accb9079f {a0 a1 a2 a3 a4 a5 a6 a7 : Int} (h0 : a0 + 2 ≤ a2) (h1 : a1 = a3 + a4) (h2 : a5 = a2 + 1) (h3 : a3 = a6 + a7) (h4 : 0 ≤ a4) (h5 : a6 = a5) (h6 : 0 ≤ a7) : a0 + 2 ≤ a1 := by omega
theorem oz_eca898f282 {a0 a1 a2 a3 a4 a5 : Int} (h0 : a0 < a2) (h1 : a1 = a3) (h2 : a4 = a2) (h3 : a3 = a5) (h4 : a5 = a4 + 1) : a0 < a1 := by omega
theorem oz_5ba3dd379f {a0 a1 a2 a3 a4 a5 a6 a7 a8 a9 a10 a11 a12 a13 : Int} (h0 : a4 - a1 ≤ a5 - a3) (h1 : a2 = a6 + a7) (h2 : a0 = a8) (h3 : a9 = a5 + 1) (h4 : a10 = a4) (h5 : a6 = a11 + a12) (h6 : a8 = a13) (h7 : 0 ≤ a7) (h8 : a13 = a10 + 1) (h9 : a11 = a9) (h10 : 0 ≤ a12) : a0 - a1 ≤ a2 - a3 := by omega
theorem oz_f5dc7dbaba {a0 a1 a2 a3 a4 a5 a6 a7 : Int} (h0 : a0 + 2 ≤ a2) (h1 : a3 + a4 ≤ a1) (h2 : a2 + 1 ≤ a5) (h3 : a6 + a7 ≤ a3) (h4 : 0 ≤ a4) (h5 : a6 = a5) (h6 : 0 ≤ a7) : a0 + 2 ≤ a1 := by omega
theorem oz_01862000b2 {a0 a1 a2 a3 a4 : Int} (h0 : a0 = a2) (h1 : a1 = a3) (h2 : a4 = a2 + 1) (h3 : a3 = a4) : a0 < a1 := by omega
theorem oz_0a76174abd {a0 a1 a2 a4 a5 a6 a7 a8 a9 : Int} {n3 : Nat} (h0 : 2 * (a0 - a4) + a5 < ((n3 + 1 : Nat) : Int)) (h1 : 0 ≤ a2) (h2 : a1 = a6 + a2) (h3 : 0 ≤ a5) (h4 : a7 = a4 + 1) (h5 : a8 = a7) (h6 : a6 = a8 + a9) (h7 : 0 ≤ a9) : 2 * (a0 - a1) + a2 < (n3 : Int) := by omega
theorem oz_e2bb57d886 {a0 a1 a2 a3 : Int} (h0 : a0 = a1) (h1 : a1 = a2) (h2 : a2 = a3) (h3 : a3 = 1) : 0 ≤ a0 := by omega
theorem oz_9bdc265ae5 {a0 a1 a2 a3 : Int} (h0 : a0 = a1) (h1 : a1 = a2) (h2 : a2 = a3) (h3 : a3 = 1) : a0 ≤ 60 := by omega
theorem oz_ad3061ceaa {a0 a1 a2 a3 a4 a5 : Int} (h0 : a0 = a1) (h1 : a1 = a2 + 1) (h2 : a2 = a3) (h3 : a4 < a3) (h4 : 0 ≤ a5) (h5 : a4 = a5) : 0 ≤ a0 := by omega
theorem oz_e4b089fc76 {a0 a1 a2 a3 a4 a5 a6 a7 a8 a9 a10 : Int} (h0 : a1 = a2 + a3) (h1 : a0 = a4) (h2 : a4 = a5 + 1) (h3 : a2 = a6) (h4 : 0 ≤ a3) (h5 : a7 ≤ a8 + 10) (h6 : a9 - a7 ≤ a10 - a8) (h7 : a6 = a10 + 1) (h8 : a5 = a9) : a0 ≤ a1 + 10 := by omega
theorem oz_64b6d1b64d {a0 a1 a2 a3 : Int} (h0 : a0 = a1) (h1 : a1 = a2) (h2 : a2 = a3) (h3 : a3 = 0) : 0 ≤ a0 := by omega
theorem oz_91a3c55eb7 {a0 a1 a2 a3 a4 a5 a6 a7 : Int} (h0 : a1 = a2) (h1 : a0 = a3) (h2 : a2 = a4) (h3 : a3 = a5) (h4 : a4 = a6) (h5 : a5 = a7) (h6 : a6 = 1) (h7 : a7 = 0) : a0 ≤ a1 := by omega
theorem oz_f3b7cb1671 {a0 a1 a2 a3 a4 a5 a6 : Int} (h0 : a1 + 1 ≤ a0) (h1 : a1 = a2 + a3) (h2 : 0 ≤ a4) (h3 : a4 + 2 ≤ a5) (h4 : a6 = a5 + 1) (h5 : a2 = a6) (h6 : 0 ≤ a3) : 0 ≤ a0 := by omega
theorem oz_cbada833cc {a0 a1 a2 a3 a4 a5 : Int} (h0 : a0 = a1) (h1 : a1 = a2) (h2 : a2 = a3) (h3 : a3 = a4) (h4 : a4 = a5) (h5 : a5 = 1) : a0 = 1 := by omega
theorem oz_13e43d3d4c {a0 a1 a2 a3 a4 a5 : Int} (h0 : a0 = a1) (h1 : a1 = a2) (h2 : a2 = a3) (h3 : a3 = a4) (h4 : a4 = a5) (h5 : a5 = 0) : a0 = 0 := by omega
theorem oz_036f9dfa45 {a0 a1 a2 a3 a4 a5 a6 a7 a8 : Int} (h0 : a0 + 2 ≤ a2) (h1 : a1 = a3 + a4) (h2 : a5 = a2 + 1) (h3 : a6 + 1 ≤ a3) (h4 : 0 ≤ a4) (h5 : a7 = a5) (h6 : a6 = a7 + a8) (h7 : 0 ≤ a8) : a0 + 2 ≤ a1 := by omega
theorem oz_3306f37a38 {a0 a1 a2 a3 a4 a5 a6 : Int} (h0 : a0 < a2) (h1 : a1 = a3) (h2 : a4 = a2) (h3 : a5 + 1 ≤ a3) (h4 : a6 = a4 + 1) (h5 : a5 = a6) : a0 < a1 := by omega
theorem oz_b18aec998c {a0 a1 a2 a3 a4 a5 a6 a7 a8 a9 a10 a11 a12 a13 a14 a15 : Int} (h0 : a4 - a1 ≤ a5 - a3) (h1 : a2 = a6 + a7) (h2 : a0 = a8) (h3 : a9 = a5 + 1) (h4 : a10 = a4) (h5 : a8 - a11 ≤ a6 - a12) (h6 : 0 ≤ a7) (h7 : a13 = a10 + 1) (h8 : a14 = a9) (h9 : a12 = a14 + a15) (h10 : a11 = a13) (h11 : 0 ≤ a15) : a0 - a1 ≤ a2 - a3 := by omega
theorem oz_8300a8d446 {a0 a1 a2 a3 a4 a5 a6 a7 a8 : Int} (h0 : a0 + 2 ≤ a2) (h1 : a3 + a4 ≤ a1) (h2 : a2 + 1 ≤ a5) (h3 : a6 + 1 ≤ a3) (h4 : 0 ≤ a4) (h5 : a7 = a5) (h6 : a7 + a8 ≤ a6) (h7 : 0 ≤ a8) : a0 + 2 ≤ a1 := by omega
theorem oz_706ac834a3 {a0 a1 a2 a4 a5 a6 a7 a8 a9 a10 : Int} {n3 : Nat} (h0 : 2 * (a0 - a4) + a5 < ((n3 + 1 : Nat) : Int)) (h1 : 0 ≤ a2) (h2 : a1 = a6 + a2) (h3 : 0 ≤ a5) (h4 : a7 = a4 + 1) (h5 : a8 = a7) (h6 : a9 = a8 + a10) (h7 : a9 + 1 ≤ a6) (h8 : 0 ≤ a10) : 2 * (a0 - a1) + a2 < (n3 : Int) := by omega
theorem oz_d68b2b83bb {a0 a1 : Int} (h0 : a0 = a1) (h1 : a1 = 0) : 0 ≤ a0 := by omega
theorem oz_739ed0f543 {a0 a1 : Int} (h0 : a0 = a1) (h1 : a1 = 0) : a0 ≤ 60 := by omega
theorem oz_43d0241111 {a0 a1 a2 : Int} (h0 : a0 = a1 + 1) (h1 : a1 = a2) (h2 : a2 = 0) : a0 = 1 := by omega
theorem oz_5fd47446d9 {a0 a1 a2 a3 : Int} (h0 : a2 = a0) (h1 : a1 = a3 + 1) (h2 : a3 = a2 + (1 : Int)) : a0 + 2 ≤ a1 := by omega
theorem oz_08bb915ce6 {a0 a1 a2 a3 a4 a5 : Int} (h0 : a2 = a0) (h1 : a3 + a4 ≤ a1) (h2 : a2 + a5 ≤ a3) (h3 : 1 ≤ a4) (h4 : 1 ≤ a5) : a0 + 2 ≤ a1 := by omega
theorem m10_12 : Cond.fieldLink "HomeSystemModel$Program" 500 "HomeSystemModel$Program" "program" "I" ∈ AL := AL_10 (List.mem_of_getElem? (i := 12) rfl) rfl
theorem m10_13 : Cond.fieldLink "HomeSystemModel$Program" 503 "HomeSystemModel$Program" "programEnd" "I" ∈ AL := AL_10 (List.mem_of_getElem? (i := 13) rfl) rfl
theorem m12_78 : Cond.methodLink "HomeSystemModel$Program" 506 ⟨"HomeSystemModel$Program", "add", "(I)V"⟩ ∈ AL := AL_12 (List.mem_of_getElem? (i := 78) rfl) rfl
theorem m12_81 : Cond.code ⟨"HomeSystemModel$Program", "add", "(I)V"⟩ prog_16_method_57_code 2 (Option.none : Option Jvm.ClassFile.FieldType) ∈ AL := AL_12 (List.mem_of_getElem? (i := 81) rfl) rfl
theorem ms_10_5 : Cond.selects "HomeSystemModel$Program" ⟨"HomeSystemModel$Program", "add", "(I)V"⟩ ⟨"HomeSystemModel$Program", "add", "(I)V"⟩ ∈ AL := AL_p (q := (⟨"HomeSystemModel$Program", "add", "(I)V"⟩, 69)) (by unfold lw_privs; exact List.mem_append_right _ (List.mem_append_right _ (List.mem_append_right _ (List.mem_append_right _ (List.mem_append_right _ (List.mem_append_right _ (List.mem_append_right _ (List.mem_append_right _ (List.mem_append_right _ (List.mem_append_left _ (List.mem_of_getElem? (i := 5) rfl)))))))))))
theorem m12_80 : Cond.instanceMethod ⟨"HomeSystemModel$Program", "add", "(I)V"⟩ ∈ AL := AL_12 (List.mem_of_getElem? (i := 80) rfl) rfl
/-! THE PIECES of a text -/
def FP (ta : Nat → Nat → Int32) (c : Int) : FM := fun na ma _ n lo hi w => (lo ≤ n ∧ n < hi) ∧ (na 14 n).toInt = 42 ∧ NdT ta c na n 1 ∧ ((ma 22 n).toInt = 0 ∨ (ma 22 n).toInt = 1) ∧ 6 ≤ w
def FK (ta : Nat → Nat → Int32) (c : Int) : FM := fun na ma d n lo hi w => (lo ≤ n ∧ n < hi) ∧ (na 14 n).toInt = 44 ∧ NdT ta c na n 1 ∧ ∃ wa : Nat, Oz (Er ta c na ma d) (na 17 n).toInt (n + 1) hi wa ∧ wa + 6 ≤ w
def FG (ta : Nat → Nat → Int32) (c : Int) : FM := fun na ma d n lo hi w => (lo ≤ n ∧ n < hi) ∧
  (((na 14 n).toInt = 23 ∧ St ta c na ma d n lo hi w) ∨
   ((na 14 n).toInt = 41 ∧ NdT ta c na n 1 ∧ (0 ≤ (ma 22 n).toInt ∧ (ma 22 n).toInt ≤ 2) ∧ 24 ≤ w ∧ ∃ b m1 wp wb : Nat, (n < m1 ∧ m1 ≤ hi) ∧ Lz na (FP ta c na ma d) (na 17 n).toInt (n + 1) m1 wp ∧ (ma 18 n).toInt = (b : Int) ∧ (na 14 b).toInt = 20 ∧ St ta c na ma d b m1 hi wb ∧ wp + wb + 2 ≤ w) ∨
   ((na 14 n).toInt = 43 ∧ ∃ wr : Nat, Lz na (FK ta c na ma d) (na 17 n).toInt (n + 1) hi wr ∧ wr ≤ w))
section PC9
variable {ta : Nat → Nat → Int32} {c : Int}
theorem ndt_fr {na ma na' ma' : Nat → Nat → Int32} {lo hi n : Nat} {s : Int} (f : FrS na ma na' ma' lo hi n) (h : NdT ta c na n s) : NdT ta c na' n s := by
  unfold NdT at h ⊢; rw [f.2.1 15 (by decide) (by decide)]; exact h
theorem fp_ok : FamOk (FP ta c) := ⟨fun h => h.1, fun h f => ⟨h.1, by rw [f.2.1 14 (by decide) (by decide)]; exact h.2.1, ndt_fr f h.2.2.1, by rw [f.2.2 22]; exact h.2.2.2.1, h.2.2.2.2⟩, fun h _ b c d => ⟨by have := h.1; omega, h.2.1, h.2.2.1, h.2.2.2.1, by have := h.2.2.2.2; omega⟩⟩
theorem fk_ok : FamOk (FK ta c) := by
  refine ⟨fun h => h.1, fun h f => ?_, fun h a b c d => ?_⟩
  · obtain ⟨h0, h1, h2, wa, h3, h4⟩ := h
    refine ⟨h0, by rw [f.2.1 14 (by decide) (by decide)]; exact h1, ndt_fr f h2, wa, ?_, h4⟩
    rw [f.2.1 17 (by decide) (by decide)]
    exact h3.mono (Nat.le_refl _) (fun a v q => q.fr (f.sub (by first | with_reducible rfl | with_reducible assumption | omega) (Nat.le_refl _) (by first | with_reducible rfl | with_reducible assumption | omega) q.rng))
  · obtain ⟨h0, h1, h2, wa, h3, h4⟩ := h
    exact ⟨by first | with_reducible rfl | with_reducible assumption | omega, h1, h2, wa, h3.mono (Nat.le_refl _) (fun x v q => q.wid a (Nat.le_refl _) c (Nat.le_refl _)), by first | with_reducible rfl | with_reducible assumption | omega⟩
theorem fg_ok : FamOk (FG ta c) := by
  refine ⟨fun h => h.1, fun {na ma na' ma' d n lo hi w} h f => ?_, fun {na ma d d' n lo lo' hi hi' w w'} h a b cc dd => ?_⟩
  · obtain ⟨h0, h1⟩ := h
    have e21 : ∀ x : Nat, n + 1 ≤ x → x < hi → na' 21 x = na 21 x := fun x a1 a2 => (f.1 x (by first | with_reducible rfl | with_reducible assumption | omega) a2 (by first | with_reducible rfl | with_reducible assumption | omega)).1 21
    refine ⟨h0, ?_⟩
    rw [f.2.1 14 (by decide) (by decide), f.2.1 17 (by decide) (by decide), f.2.2 22, f.2.2 18]
    rcases h1 with ⟨g, g1⟩ | ⟨g, g1, g2, g3, b, m1, wp, wb, g0, g4, g5, g6, g7, g8⟩ | ⟨g, wr, g1, g2⟩
    · exact Or.inl ⟨g, g1.fr f⟩
    · have r := g7.rng
      refine Or.inr (Or.inl ⟨g, ndt_fr f g1, g2, g3, b, m1, wp, wb, g0, ?_, g5, ?_, g7.fr (f.sub (by first | with_reducible rfl | with_reducible assumption | omega) (Nat.le_refl _) (by first | with_reducible rfl | with_reducible assumption | omega) r), g8⟩)
      · exact g4.fr (fun x a1 a2 => e21 x a1 (by first | with_reducible rfl | with_reducible assumption | omega)) (fun x l h v a1 a2 a3 a4 q => fp_ok.fr q (f.sub (by first | with_reducible rfl | with_reducible assumption | omega) (by first | with_reducible rfl | with_reducible assumption | omega) (by first | with_reducible rfl | with_reducible assumption | omega) ⟨a3, a4⟩))
      · rw [(f.1 b (by first | with_reducible rfl | with_reducible assumption | omega) r.2 (by first | with_reducible rfl | with_reducible assumption | omega)).1 14]; exact g6
    · exact Or.inr (Or.inr ⟨g, wr, g1.fr e21 (fun x l h v a1 a2 a3 a4 q => fk_ok.fr q (f.sub (by first | with_reducible rfl | with_reducible assumption | omega) a2 (by first | with_reducible rfl | with_reducible assumption | omega) ⟨a3, a4⟩)), g2⟩)
  · obtain ⟨h0, h1⟩ := h
    refine ⟨by first | with_reducible rfl | with_reducible assumption | omega, ?_⟩
    rcases h1 with ⟨g, g1⟩ | ⟨g, g1, g2, g3, b', m1, wp, wb, g0, g4, g5, g6, g7, g8⟩ | ⟨g, wr, g1, g2⟩
    · exact Or.inl ⟨g, g1.wid a b cc dd⟩
    · exact Or.inr (Or.inl ⟨g, g1, g2, by first | with_reducible rfl | with_reducible assumption | omega, b', m1, wp, wb, by first | with_reducible rfl | with_reducible assumption | omega, g4.wid (P' := FP ta c na ma d') (fun x l l' h v hl q => fp_ok.wid q a hl (Nat.le_refl _) (Nat.le_refl _)) (Nat.le_refl _) (Nat.le_refl _) (Nat.le_refl _), g5, g6, g7.wid a (Nat.le_refl _) cc (Nat.le_refl _), by first | with_reducible rfl | with_reducible assumption | omega⟩)
    · exact Or.inr (Or.inr ⟨g, wr, g1.wid (P' := FK ta c na ma d') (fun x l l' h v hl q => fk_ok.wid q a hl (Nat.le_refl _) (Nat.le_refl _)) (Nat.le_refl _) cc (Nat.le_refl _), by first | with_reducible rfl | with_reducible assumption | omega⟩)
end PC9
abbrev VlP (ta : Nat → Nat → Int32) (c : Int) := VlV (FP ta c)
abbrev VlK (ta : Nat → Nat → Int32) (c : Int) := VlV (FK ta c)
abbrev VlG (ta : Nat → Nat → Int32) (c : Int) := VlV (FG ta c)
abbrev RfP (ta : Nat → Nat → Int32) (c : Int) := RfV (FP ta c)
abbrev ZfK (ta : Nat → Nat → Int32) (c : Int) := ZfV (FK ta c)
abbrev RzG (ta : Nat → Nat → Int32) (c : Int) := RzV (FG ta c)
theorem rz_eq {F : FM} {na ma : Nat → Nat → Int32} {k x k' x' : Int32} {lo hi W D : Int} (h : RzV F na ma k x lo hi W D) (e1 : k.toInt = k'.toInt) (e2 : x.toInt = x'.toInt) : RzV F na ma k' x' lo hi W D := by
  rw [← i_eq.mpr e1, ← i_eq.mpr e2]; exact h
section PB9
variable {ta : Nat → Nat → Int32} {c : Int} {na ma : Nat → Nat → Int32} {n t : Int32} {hi D : Int}
theorem vl_par {y : Int32} (g : NdF c na n 42 t) (hs : so ta t = 1) (hn : n.toInt + 1 ≤ hi) (e22 : ma 22 n.toNatClampNeg = y) (hy : y.toInt = 0 ∨ y.toInt = 1) (hD : 0 ≤ D) : VlP ta c na ma n n.toInt hi 6 D := by
  have hc := cl_nat g.1
  exact ⟨n.toNatClampNeg, hi.toNat, 0, 6, by first | with_reducible rfl | with_reducible assumption | omega, by first | with_reducible rfl | with_reducible assumption | omega, g.1, ⟨by first | with_reducible rfl | with_reducible assumption | omega, ndf_k g rfl, by unfold NdT; rw [g.2.2.1]; exact ⟨g.2.2.2.1.1, g.2.2.2.1.2, hs⟩, by rw [e22]; exact hy, Nat.le_refl _⟩, by first | with_reducible rfl | with_reducible assumption | omega, by first | with_reducible rfl | with_reducible assumption | omega, by rw [g.2.2.2.2]; decide⟩
theorem vl_con {a : Int32} {lo W : Int} (g : NdF c na n 44 t) (hs : so ta t = 1) (hn : n.toInt + 1 ≤ hi) (e17 : na 17 n.toNatClampNeg = a) (hD : 0 ≤ D) (h : OzV (FE ta c) na ma a lo hi W D) (hl : n.toInt + 1 ≤ lo) : VlK ta c na ma n n.toInt hi (W + 6) D := by
  have hc := cl_nat g.1
  obtain ⟨w, a1, a2⟩ := h.at fe_ok (l := n.toNatClampNeg + 1) (h' := hi.toNat) (by first | with_reducible rfl | with_reducible assumption | omega) (by first | with_reducible rfl | with_reducible assumption | omega)
  exact ⟨n.toNatClampNeg, hi.toNat, D.toNat, w + 6, by first | with_reducible rfl | with_reducible assumption | omega, by first | with_reducible rfl | with_reducible assumption | omega, g.1, ⟨by first | with_reducible rfl | with_reducible assumption | omega, ndf_k g rfl, by unfold NdT; rw [g.2.2.1]; exact ⟨g.2.2.2.1.1, g.2.2.2.1.2, hs⟩, w, by rw [e17]; exact a2, Nat.le_refl _⟩, by first | with_reducible rfl | with_reducible assumption | omega, by first | with_reducible rfl | with_reducible assumption | omega, by rw [g.2.2.2.2]; decide⟩
theorem vg_decl {lo W : Int} (h : VlS ta c na ma n lo hi W D) (e : na 14 n.toNatClampNeg = 23) : VlG ta c na ma n lo hi W D := by
  obtain ⟨l, hh, d, w, a1, a2, a3, a4, a5, a6, a7⟩ := h
  exact ⟨l, hh, d, w, a1, a2, a3, ⟨St.rng a4, Or.inl ⟨by rw [e]; rfl, a4⟩⟩, a5, a6, a7⟩
theorem vg_enum {x : Int32} {W : Int} (g : NdF c na n 43 t) (hn : n.toInt + 1 ≤ hi) (hD : 0 ≤ D) (h : RzV (FK ta c) na ma (na 17 n.toNatClampNeg) x (n.toInt + 1) hi W D) : VlG ta c na ma n n.toInt hi W D := by
  have hc := cl_nat g.1
  obtain ⟨w, a1, a2⟩ := h.at fk_ok (l := n.toNatClampNeg + 1) (h' := hi.toNat) (by first | with_reducible rfl | with_reducible assumption | omega) (by first | with_reducible rfl | with_reducible assumption | omega)
  exact ⟨n.toNatClampNeg, hi.toNat, D.toNat, w, by first | with_reducible rfl | with_reducible assumption | omega, by first | with_reducible rfl | with_reducible assumption | omega, g.1, ⟨by first | with_reducible rfl | with_reducible assumption | omega, Or.inr (Or.inr ⟨ndf_k g rfl, w, a2, Nat.le_refl _⟩)⟩, by first | with_reducible rfl | with_reducible assumption | omega, by first | with_reducible rfl | with_reducible assumption | omega, by rw [g.2.2.2.2]; decide⟩
theorem vg_fun {b x y : Int32} {l1 m1 l2 W W2 Wt : Int} (g : NdF c na n 41 t) (hs : so ta t = 1) (hD : 0 ≤ D) (e22 : ma 22 n.toNatClampNeg = y) (hy : 0 ≤ y.toInt ∧ y.toInt ≤ 2) (h : RzV (FP ta c) na ma (na 17 n.toNatClampNeg) x l1 m1 W D) (e18 : ma 18 n.toNatClampNeg = b) (eb : na 14 b.toNatClampNeg = 20) (h2 : VlS ta c na ma b l2 hi W2 D) (i1 : n.toInt + 1 ≤ l1) (i2 : n.toInt + 1 ≤ m1) (i3 : m1 ≤ l2) (h24 : 24 ≤ Wt) (hW : W + W2 + 2 ≤ Wt) : VlG ta c na ma n n.toInt hi Wt D := by
  have hc := cl_nat g.1
  have r := h2.num fs_ok
  obtain ⟨w, a1, a2⟩ := h.at fp_ok (l := n.toNatClampNeg + 1) (h' := m1.toNat) (by first | with_reducible rfl | with_reducible assumption | omega) (by first | with_reducible rfl | with_reducible assumption | omega)
  obtain ⟨w2, b1, b2, b3⟩ := h2.at fs_ok (l := m1.toNat) (h' := hi.toNat) (by first | with_reducible rfl | with_reducible assumption | omega) (by first | with_reducible rfl | with_reducible assumption | omega)
  exact ⟨n.toNatClampNeg, hi.toNat, D.toNat, Wt.toNat, by first | with_reducible rfl | with_reducible assumption | omega, by first | with_reducible rfl | with_reducible assumption | omega, g.1, ⟨by first | with_reducible rfl | with_reducible assumption | omega, Or.inr (Or.inl ⟨ndf_k g rfl, by unfold NdT; rw [g.2.2.1]; exact ⟨g.2.2.2.1.1, g.2.2.2.1.2, hs⟩, by rw [e22]; exact hy, by first | with_reducible rfl | with_reducible assumption | omega, b.toNatClampNeg, m1.toNat, w, w2, by first | with_reducible rfl | with_reducible assumption | omega, a2, by rw [e18]; exact b3, by rw [eb]; rfl, b2, by first | with_reducible rfl | with_reducible assumption | omega⟩)⟩, by first | with_reducible rfl | with_reducible assumption | omega, by first | with_reducible rfl | with_reducible assumption | omega, by rw [g.2.2.2.2]; decide⟩
end PB9
def LfV (F : FM) (na ma : Nat → Nat → Int32) (g : Nat → Int32) (p : Int32) (lo hi W D : Int) : Prop := ∃ x : Int32, ZfV F na ma g p x lo hi W D
abbrev LfP (ta : Nat → Nat → Int32) (c : Int) := LfV (FP ta c)
abbrev b_Mpg_parameter : ByteArray := prog_16_method_59_code
def y_Mpg_parameter : MethodName := ⟨"HomeSystemModel$Program", "parameter", "()I"⟩
theorem d_Mpg_parameter_0 : decode b_Mpg_parameter 0 = .ok (.aload_n 0, 1) := by decide +kernel
theorem d_Mpg_parameter_1 : decode b_Mpg_parameter 1 = .ok (.aload_n 0, 1) := by decide +kernel
theorem d_Mpg_parameter_2 : decode b_Mpg_parameter 2 = .ok (.invokevirtual 473, 3) := by decide +kernel
theorem d_Mpg_parameter_5 : decode b_Mpg_parameter 5 = .ok (.invokevirtual 373, 3) := by decide +kernel
theorem d_Mpg_parameter_8 : decode b_Mpg_parameter 8 = .ok (.aload_n 0, 1) := by decide +kernel
theorem d_Mpg_parameter_9 : decode b_Mpg_parameter 9 = .ok (.getfield 204, 3) := by decide +kernel
theorem d_Mpg_parameter_12 : decode b_Mpg_parameter 12 = .ok (.aload_n 0, 1) := by decide +kernel
theorem d_Mpg_parameter_13 : decode b_Mpg_parameter 13 = .ok (.getfield 360, 3) := by decide +kernel
theorem d_Mpg_parameter_16 : decode b_Mpg_parameter 16 = .ok (.iaload, 1) := by decide +kernel
theorem d_Mpg_parameter_17 : decode b_Mpg_parameter 17 = .ok (.istore_n 1, 1) := by decide +kernel
theorem d_Mpg_parameter_18 : decode b_Mpg_parameter 18 = .ok (.aload_n 0, 1) := by decide +kernel
theorem d_Mpg_parameter_19 : decode b_Mpg_parameter 19 = .ok (.dup, 1) := by decide +kernel
theorem d_Mpg_parameter_20 : decode b_Mpg_parameter 20 = .ok (.getfield 360, 3) := by decide +kernel
theorem d_Mpg_parameter_23 : decode b_Mpg_parameter 23 = .ok (.iconst 1, 1) := by decide +kernel
theorem d_Mpg_parameter_24 : decode b_Mpg_parameter 24 = .ok (.iadd, 1) := by decide +kernel
theorem d_Mpg_parameter_25 : decode b_Mpg_parameter 25 = .ok (.putfield 360, 3) := by decide +kernel
theorem d_Mpg_parameter_28 : decode b_Mpg_parameter 28 = .ok (.aload_n 0, 1) := by decide +kernel
theorem d_Mpg_parameter_29 : decode b_Mpg_parameter 29 = .ok (.bipush 42, 2) := by decide +kernel
theorem d_Mpg_parameter_31 : decode b_Mpg_parameter 31 = .ok (.aload_n 0, 1) := by decide +kernel
theorem d_Mpg_parameter_32 : decode b_Mpg_parameter 32 = .ok (.invokevirtual 442, 3) := by decide +kernel
theorem d_Mpg_parameter_35 : decode b_Mpg_parameter 35 = .ok (.invokevirtual 406, 3) := by decide +kernel
theorem d_Mpg_parameter_38 : decode b_Mpg_parameter 38 = .ok (.istore_n 2, 1) := by decide +kernel
theorem d_Mpg_parameter_39 : decode b_Mpg_parameter 39 = .ok (.aload_n 0, 1) := by decide +kernel
theorem d_Mpg_parameter_40 : decode b_Mpg_parameter 40 = .ok (.getfield 231, 3) := by decide +kernel
theorem d_Mpg_parameter_43 : decode b_Mpg_parameter 43 = .ok (.iload_n 2, 1) := by decide +kernel
theorem d_Mpg_parameter_44 : decode b_Mpg_parameter 44 = .ok (.iload_n 1, 1) := by decide +kernel
theorem d_Mpg_parameter_45 : decode b_Mpg_parameter 45 = .ok (.iastore, 1) := by decide +kernel
theorem d_Mpg_parameter_46 : decode b_Mpg_parameter 46 = .ok (.aload_n 0, 1) := by decide +kernel
theorem d_Mpg_parameter_47 : decode b_Mpg_parameter 47 = .ok (.ldc 95, 2) := by decide +kernel
theorem d_Mpg_parameter_49 : decode b_Mpg_parameter 49 = .ok (.invokevirtual 366, 3) := by decide +kernel
theorem d_Mpg_parameter_52 : decode b_Mpg_parameter 52 = .ok (.ifCond .eq 20, 3) := by decide +kernel
theorem d_Mpg_parameter_55 : decode b_Mpg_parameter 55 = .ok (.aload_n 0, 1) := by decide +kernel
theorem d_Mpg_parameter_56 : decode b_Mpg_parameter 56 = .ok (.invokevirtual 383, 3) := by decide +kernel
theorem d_Mpg_parameter_59 : decode b_Mpg_parameter 59 = .ok (.aload_n 0, 1) := by decide +kernel
theorem d_Mpg_parameter_60 : decode b_Mpg_parameter 60 = .ok (.ldc 97, 2) := by decide +kernel
theorem d_Mpg_parameter_62 : decode b_Mpg_parameter 62 = .ok (.invokevirtual 439, 3) := by decide +kernel
theorem d_Mpg_parameter_65 : decode b_Mpg_parameter 65 = .ok (.aload_n 0, 1) := by decide +kernel
theorem d_Mpg_parameter_66 : decode b_Mpg_parameter 66 = .ok (.getfield 216, 3) := by decide +kernel
theorem d_Mpg_parameter_69 : decode b_Mpg_parameter 69 = .ok (.iload_n 2, 1) := by decide +kernel
theorem d_Mpg_parameter_70 : decode b_Mpg_parameter 70 = .ok (.iconst 1, 1) := by decide +kernel
theorem d_Mpg_parameter_71 : decode b_Mpg_parameter 71 = .ok (.iastore, 1) := by decide +kernel
theorem d_Mpg_parameter_72 : decode b_Mpg_parameter 72 = .ok (.iload_n 2, 1) := by decide +kernel
theorem d_Mpg_parameter_73 : decode b_Mpg_parameter 73 = .ok (.ireturn, 1) := by decide +kernel
theorem q_Mpg_parameter : px_y y_Mpg_parameter 0 := by unfold px_y; decide +kernel
set_option maxHeartbeats 4000000 in
set_option maxRecDepth 100000 in
theorem c_mp_parameter (l : Launch) (D : va_G) (cs : Nat → ClassId) (h : Nat) (r : Nat → Nat) (g : Nat → Nat → Option Nat) (tf : Nat → Int32) (ta : Nat → Nat → Int32) (cf : Nat → Int32) (ca : Nat → Nat → Int32) (ef : Nat → Int32) (ea : Nat → Nat → Int32) (xf : Nat → Int32) (xa : Nat → Nat → Int32) (pf : Nat → Int32) (na : Nat → Nat → Int32) (ma : Nat → Nat → Int32) (wa : Nat → Nat → Int32) (lv : Nat) (g0 : 0 ≤ (pf 11).toInt) (g1 : (pf 11).toInt < (tf 6).toInt) (g2 : (tf 6).toInt ≤ 2049) (g3 : 0 ≤ (pf 12).toInt) (g4 : (pf 12).toInt ≤ 60) (g5 : 0 ≤ (pf 13).toInt) (g6 : (pf 13).toInt ≤ (pf 11).toInt + 10) (g7 : 0 ≤ (pf 26).toInt) (g8 : (pf 26).toInt ≤ (pf 12).toInt) (g9 : 61 ≤ (pf 12).toInt + (lv : Int)) (g10 : lv ≤ 61) (hlf : l.flags = pinnedFlags ++ [noTraceFlag]) (htk : TkI tf ta) (hfs : FsI (tf 6).toInt (pf 13).toInt na) : ThI l y_Mpg_parameter b_Mpg_parameter 3 (.int) D cs (8 * lv + 24) (220 * lv + 1120) [.ref h] [wdP cs h r g tf ta pf na ma wa cf ca ef ea xf xa] (oX (fun A U H => (oN A U H) ∧ (oP A g U H)) [wdP cs h r g tf ta pf na ma wa cf ca ef ea xf xa]) "java/lang/IllegalArgumentException" (fun v ps => ∃ (pf' : Nat → Int32) (na' : Nat → Nat → Int32) (ma' : Nat → Nat → Int32) (wa' : Nat → Nat → Int32), (ps = [wdP cs h r g tf ta pf' na' ma' wa' cf ca ef ea xf xa]) ∧ ((pf 11).toInt + 1 ≤ (pf' 11).toInt) ∧ ((pf' 11).toInt < (tf 6).toInt) ∧ ((pf 13).toInt + 1 ≤ (pf' 13).toInt) ∧ ((pf' 13).toInt - (pf 13).toInt ≤ (pf' 11).toInt - (pf 11).toInt) ∧ (bp ta (pf 11) + 1 ≤ bp ta (pf' 11)) ∧ ((pf' 12).toInt = (pf 12).toInt) ∧ ((pf' 24).toInt = (pf 24).toInt) ∧ ((pf' 25).toInt = (pf 25).toInt) ∧ ((pf' 26).toInt = (pf 26).toInt) ∧ (bp ta (pf 11) + 2 ≤ bp ta (pf' 11)) ∧ (FrB (pf 13).toInt na ma na' ma') ∧ (FrW (pf 26).toInt wa wa') ∧ (VlP ta (tf 6).toInt na' ma' v (pf 13).toInt (pf' 13).toInt (3 * (bp ta (pf' 11) - bp ta (pf 11))) 130) ∧ (FsI (tf 6).toInt (pf' 13).toInt na')) (fun ps => ∃ (pf' : Nat → Int32) (na' : Nat → Nat → Int32) (ma' : Nat → Nat → Int32) (wa' : Nat → Nat → Int32), ps = [wdP cs h r g tf ta pf' na' ma' wa' cf ca ef ea xf xa] ∧ 0 ≤ (pf' 11).toInt ∧ (pf' 11).toInt + 1 ≤ (tf 6).toInt) := by
  refine th_enter (by decide) (Nat.le_of_ble_eq_true rfl) ?_
  intro p e s m below meth c A ls hAe S hr hlk hnm hA hT hX hw hl hne hadm
  have hl : lv_has ls 3 [(0, .ref h)] := hl
  have cst1 : (1 : Int32).toInt = 1 := rfl
  have cst42 : (42 : Int32).toInt = 42 := rfl
  have hX : (fun A U H => (oN A U H) ∧ (oP A g U H)) A s s.heap := by rw [hAe]; exact hX
  obtain ⟨hN, hP⟩ := hX
  have hZ := hP.1
  have hF0 := hP.2.1
  have hfb : FrB (pf 13).toInt na ma na ma := FrB.rf
  have hfw : FrW (pf 26).toInt wa wa := FrW.rf
  refine lv_aload_n S.x S.b d_Mpg_parameter_0 rfl (lv_at hl 0 rfl) ?_
  refine lv_aload_n S.x S.b d_Mpg_parameter_1 rfl (lv_at hl 0 rfl) ?_
  first | refine px_calli (pr := []) (px_runV (As := []) (rest := [.ref h]) S (c_mp_isType l D cs h r g tf ta pf na ma wa cf ca ef ea xf xa   (show 0 ≤ (pf 11).toInt from g0) (show (pf 11).toInt < (tf 6).toInt from g1) (show (tf 6).toInt ≤ 2049 from g2) htk _) hT (pr := []) (pcs := [wdP cs h r g tf ta pf na ma wa cf ca ef ea xf xa]) hw px_X.tt (px_recv hT hw 0 0 rfl rfl rfl) m12_85 m12_82 m12_84 ms_10_6 m1_21 q_Mpg_isType ⟨show 1 + 1 ≤ (8 * lv + 24) from by first | with_reducible rfl | with_reducible assumption | omega, show 8 + (1 + 11) + 40 ≤ (220 * lv + 1120) from by first | with_reducible rfl | with_reducible assumption | omega⟩ hl.1 rfl (Nat.le_of_ble_eq_true rfl) d_Mpg_parameter_2 ⟨Nat.le_of_ble_eq_true rfl, Nat.le_of_ble_eq_true rfl⟩) hw hA (fun v2 p1 H locs hp1 hw => ?_) | refine px_calli (pr := []) (px_runV (As := []) (rest := [.ref h]) S (c_mp_isType l D cs h r g tf ta pf na ma wa cf ca ef ea xf xa   (show 0 ≤ (pf 11).toInt from by first | exact g0 | omega) (show (pf 11).toInt < (tf 6).toInt from by first | exact g1 | omega) (show (tf 6).toInt ≤ 2049 from by first | exact g2 | omega) htk _) hT (pr := []) (pcs := [wdP cs h r g tf ta pf na ma wa cf ca ef ea xf xa]) hw px_X.tt (px_recv hT hw 0 0 rfl rfl rfl) m12_85 m12_82 m12_84 ms_10_6 m1_21 q_Mpg_isType ⟨show 1 + 1 ≤ (8 * lv + 24) from by first | with_reducible rfl | with_reducible assumption | omega, show 8 + (1 + 11) + 40 ≤ (220 * lv + 1120) from by first | with_reducible rfl | with_reducible assumption | omega⟩ hl.1 rfl (Nat.le_of_ble_eq_true rfl) d_Mpg_parameter_2 ⟨Nat.le_of_ble_eq_true rfl, Nat.le_of_ble_eq_true rfl⟩) hw hA (fun v2 p1 H locs hp1 hw => ?_)
  obtain ⟨rfl, e3, e4⟩ := hp1
  have e3 := z_rng e3
  have e4 : v2.toInt = 1 → (pf 11).toInt + 1 < (tf 6).toInt ∧ so ta (pf 11) = 2 ∧ 0 ≤ wh ta (pf 11) ∧ wh ta (pf 11) ≤ 1 := e4
  have lv2 := Int32.le_toInt v2
  have uv2 := Int32.toInt_lt v2
  refine th_callv (ps0 := [wdP cs h r g tf ta pf na ma wa cf ca ef ea xf xa]) (pr := [wdP cs h r g tf ta pf na ma wa cf ca ef ea xf xa]) (pcs := []) (As := [.int v2]) (rest := []) (c_mp_need l hlf D cs h v2) S hT hw (oX_call (P := (fun A U H => (oN A U H))) (pr := [wdP cs h r g tf ta pf na ma wa cf ca ef ea xf xa]) oG_N hw hA hN) (px_recv hT hw 0 0 rfl rfl rfl) m11_233 m11_230 m11_232 ms_9_0 m1_21 q_Mpg_need ⟨show 6 + 1 ≤ (8 * lv + 24) from by first | with_reducible rfl | with_reducible assumption | omega, show 8 + (2 + 11) + 100 ≤ (220 * lv + 1120) from by first | with_reducible rfl | with_reducible assumption | omega⟩ hl.1 rfl (Nat.le_of_ble_eq_true rfl) d_Mpg_parameter_5 ⟨Nat.le_of_ble_eq_true rfl, Nat.le_of_ble_eq_true rfl⟩ hne hlk hA hAe (fun o t h => Or.inr h) ?_ (fun p5 H locs hp5 hw => ?_)
  · exact fun p1 H1 locs1 hp hw => by subst hp; exact ⟨_, ⟨pf, na, ma, wa, rfl, by first | with_reducible rfl | with_reducible assumption | omega, by first | with_reducible rfl | with_reducible assumption | omega⟩, hw.sub [0] rfl rfl⟩
  obtain ⟨rfl, hndp5⟩ := hp5
  have hndp5 : ¬ v2.toInt = 0 := hndp5
  refine lv_aload_n S.x S.b d_Mpg_parameter_8 rfl (lv_at hl 0 rfl) ?_
  refine px_get S k_Mpg hT hw 0 0 10 (v := .ref (r 10)) rfl rfl rfl (by decide) m9_234 d_Mpg_parameter_9 ?_
  refine lv_aload_n S.x S.b d_Mpg_parameter_12 rfl (lv_at hl 0 rfl) ?_
  refine px_get S k_Mpg hT hw 0 0 11 (v := .int (pf 11)) rfl rfl rfl (by decide) m9_235 d_Mpg_parameter_13 ?_
  refine px_iald S hT hw 0 9 (n := 2060) (f := (ta 10)) rfl gp_10 (x := (pf 11)) (vp_in_iff.mpr (by first | exact oz_846323bf3a g0 g1 g2 | (constructor <;> omega))) d_Mpg_parameter_16 ?_
  refine lv_topi (fun z7 ez7 => ?_)
  have lz7 := Int32.le_toInt z7
  have uz7 := Int32.toInt_lt z7
  have rz7 : z7.toInt = wh ta (pf 11) := by rw [ez7]; rfl
  refine lv_istore_n (lv' := [(1, .int z7), (0, .ref h)]) S.x S.b d_Mpg_parameter_17 rfl hl (by decide) rfl (fun ls hl => ?_)
  refine lv_aload_n S.x S.b d_Mpg_parameter_18 rfl (lv_at hl 1 rfl) ?_
  refine lv_dup S.x S.b d_Mpg_parameter_19 rfl ?_
  refine px_get S k_Mpg hT hw 0 0 11 (v := .int (pf 11)) rfl rfl rfl (by decide) m9_235 d_Mpg_parameter_20 ?_
  refine lv_iconst (v := 1) S.x S.b d_Mpg_parameter_23 (by decide) ?_
  refine lv_iadd S.x S.b d_Mpg_parameter_24 ?_
  have lr8 := Int32.le_toInt (pf 11)
  have ur8 := Int32.toInt_lt (pf 11)
  refine lv_topi (fun z9 ez9 => ?_)
  have tz9 : z9.toInt = ((pf 11).toInt + (1 : Int) + 2147483648) % 4294967296 - 2147483648 := by rw [ez9]; exact i_add (pf 11) 1
  have lz9 := Int32.le_toInt z9
  have uz9 := Int32.toInt_lt z9
  try replace tz9 : z9.toInt = (pf 11).toInt + (1 : Int) := by omega
  have hnx24 := tk_n htk (x := (pf 11)) (y := z9) (by first | with_reducible rfl | with_reducible assumption | omega) (by first | with_reducible rfl | with_reducible assumption | omega) (by first | with_reducible rfl | with_reducible assumption | omega)
  refine px_put S k_Mpg hT hw 0 0 11 rfl rfl (by decide) m9_235 rfl rfl rfl (Nat.le_of_ble_eq_true rfl) d_Mpg_parameter_25 (w' := wdP cs h r g tf ta (upd pf 11 z9) na ma wa cf ca ef ea xf xa) (ps' := [wdP cs h r g tf ta (upd pf 11 z9) na ma wa cf ca ef ea xf xa]) rfl rfl (fun H locs hw => ?_)
  refine lv_aload_n S.x S.b d_Mpg_parameter_28 rfl (lv_at hl 1 rfl) ?_
  refine lv_bipush (v := 42) S.x S.b d_Mpg_parameter_29 (by decide) ?_
  refine lv_aload_n S.x S.b d_Mpg_parameter_31 rfl (lv_at hl 1 rfl) ?_
  first | refine th_calli (ps0 := [wdP cs h r g tf ta pf na ma wa cf ca ef ea xf xa]) (pr := []) (pcs := [wdP cs h r g tf ta (upd pf 11 z9) na ma wa cf ca ef ea xf xa]) (As := []) (rest := [.int 42, .ref h]) (c_mp_name l D cs h r g tf ta na ma wa cf ca ef ea xf xa (upd pf 11 z9)   (show 0 ≤ z9.toInt from (oz_b3b25f0e49 tz9 g0)) (show z9.toInt < (tf 6).toInt from by first | with_reducible rfl | with_reducible assumption | omega) (show (tf 6).toInt ≤ 2049 from g2) hlf htk) S hT hw (oX_call (P := (fun A U H => (oN A U H) ∧ (oP A g U H))) (pr := []) (oG_and oG_N oG_P) hw hA ⟨hN, hP⟩) (px_recv hT hw 0 0 rfl rfl rfl) m12_2 m11_239 m12_1 ms_9_2 m1_21 q_Mpg_name ⟨show 7 + 1 ≤ (8 * lv + 24) from by first | with_reducible rfl | with_reducible assumption | omega, show 8 + (1 + 11) + 150 ≤ (220 * lv + 1120) from by first | with_reducible rfl | with_reducible assumption | omega⟩ hl.1 rfl (Nat.le_of_ble_eq_true rfl) d_Mpg_parameter_32 ⟨Nat.le_of_ble_eq_true rfl, Nat.le_of_ble_eq_true rfl⟩ hne hlk hA hAe (fun o t h => Or.inr h) ?_ (fun v13 p12 H locs hp12 hw => ?_) | refine th_calli (ps0 := [wdP cs h r g tf ta pf na ma wa cf ca ef ea xf xa]) (pr := []) (pcs := [wdP cs h r g tf ta (upd pf 11 z9) na ma wa cf ca ef ea xf xa]) (As := []) (rest := [.int 42, .ref h]) (c_mp_name l D cs h r g tf ta na ma wa cf ca ef ea xf xa (upd pf 11 z9)   (show 0 ≤ z9.toInt from by first | exact oz_b3b25f0e49 tz9 g0 | omega) (show z9.toInt < (tf 6).toInt from by first | with_reducible rfl | with_reducible assumption | omega) (show (tf 6).toInt ≤ 2049 from by first | exact g2 | omega) hlf htk) S hT hw (oX_call (P := (fun A U H => (oN A U H) ∧ (oP A g U H))) (pr := []) (oG_and oG_N oG_P) hw hA ⟨hN, hP⟩) (px_recv hT hw 0 0 rfl rfl rfl) m12_2 m11_239 m12_1 ms_9_2 m1_21 q_Mpg_name ⟨show 7 + 1 ≤ (8 * lv + 24) from by first | with_reducible rfl | with_reducible assumption | omega, show 8 + (1 + 11) + 150 ≤ (220 * lv + 1120) from by first | with_reducible rfl | with_reducible assumption | omega⟩ hl.1 rfl (Nat.le_of_ble_eq_true rfl) d_Mpg_parameter_32 ⟨Nat.le_of_ble_eq_true rfl, Nat.le_of_ble_eq_true rfl⟩ hne hlk hA hAe (fun o t h => Or.inr h) ?_ (fun v13 p12 H locs hp12 hw => ?_)
  · exact fun p1 H1 locs1 hp hw => by obtain ⟨pq1, pq2, pq3, pq4, rfl, hq1, hq2⟩ := hp; exact ⟨_, ⟨pq1, pq2, pq3, pq4, rfl, hq1, hq2⟩, hw⟩
  obtain ⟨pf11, rfl, e14, e15, e16, e17, e18, e19, e20, e21, e22, e23⟩ := hp12
  have e14 : v13.toInt = z9.toInt := e14
  have e15 : SoIs ta v13 1 := e15
  have e16 : (pf11 11).toInt = z9.toInt + 1 := e16
  have e17 : (pf11 11).toInt < (tf 6).toInt := e17
  have e18 : bp ta z9 + 1 ≤ bp ta (pf11 11) := e18
  have e19 : (pf11 12).toInt = (pf 12).toInt := e19
  have e20 : (pf11 13).toInt = (pf 13).toInt := e20
  have e21 : (pf11 24).toInt = (pf 24).toInt := e21
  have e22 : (pf11 25).toInt = (pf 25).toInt := e22
  have e23 : (pf11 26).toInt = (pf 26).toInt := e23
  have lv13 := Int32.le_toInt v13
  have uv13 := Int32.toInt_lt v13
  first | refine px_calli (pr := []) (px_runV (As := [.int 42, .int v13]) (rest := []) S (c_mp_make l D cs h r g tf ta wa cf ca ef ea xf xa pf11 na ma 42 v13  (show 0 ≤ (pf11 13).toInt from (oz_f3ebed1ad0 e20 g5)) (show (pf11 13).toInt < 2100 from (oz_6fe2caf3b5 e20 g6 tz9 g2 e16 e17)) _) hT (pr := []) (pcs := [wdP cs h r g tf ta pf11 na ma wa cf ca ef ea xf xa]) hw px_X.tt (px_recv hT hw 0 0 rfl rfl rfl) m11_209 m11_206 m11_208 ms_8_12 m1_21 q_Mpg_make ⟨show 0 + 1 ≤ (8 * lv + 24) from by first | with_reducible rfl | with_reducible assumption | omega, show 8 + (3 + 11) + 0 ≤ (220 * lv + 1120) from by first | with_reducible rfl | with_reducible assumption | omega⟩ hl.1 rfl (Nat.le_of_ble_eq_true rfl) d_Mpg_parameter_35 ⟨Nat.le_of_ble_eq_true rfl, Nat.le_of_ble_eq_true rfl⟩) hw hA (fun v31 p30 H locs hp30 hw => ?_) | refine px_calli (pr := []) (px_runV (As := [.int 42, .int v13]) (rest := []) S (c_mp_make l D cs h r g tf ta wa cf ca ef ea xf xa pf11 na ma 42 v13  (show 0 ≤ (pf11 13).toInt from by first | exact oz_f3ebed1ad0 e20 g5 | omega) (show (pf11 13).toInt < 2100 from by first | exact oz_6fe2caf3b5 e20 g6 tz9 g2 e16 e17 | omega) _) hT (pr := []) (pcs := [wdP cs h r g tf ta pf11 na ma wa cf ca ef ea xf xa]) hw px_X.tt (px_recv hT hw 0 0 rfl rfl rfl) m11_209 m11_206 m11_208 ms_8_12 m1_21 q_Mpg_make ⟨show 0 + 1 ≤ (8 * lv + 24) from by first | with_reducible rfl | with_reducible assumption | omega, show 8 + (3 + 11) + 0 ≤ (220 * lv + 1120) from by first | with_reducible rfl | with_reducible assumption | omega⟩ hl.1 rfl (Nat.le_of_ble_eq_true rfl) d_Mpg_parameter_35 ⟨Nat.le_of_ble_eq_true rfl, Nat.le_of_ble_eq_true rfl⟩) hw hA (fun v31 p30 H locs hp30 hw => ?_)
  obtain ⟨pf27, na28, ma29, rfl, e32, e33, e34, e35, e36, e37, e38, e39⟩ := hp30
  have e32 : v31.toInt = (pf11 13).toInt := e32
  have e33 : (pf27 13).toInt = (pf11 13).toInt + 1 := e33
  have e34 : (pf27 11).toInt = (pf11 11).toInt := e34
  have e35 : (pf27 12).toInt = (pf11 12).toInt := e35
  have e36 : (pf27 24).toInt = (pf11 24).toInt := e36
  have e37 : (pf27 25).toInt = (pf11 25).toInt := e37
  have e38 : (pf27 26).toInt = (pf11 26).toInt := e38
  have e39 : MkN na ma na28 ma29 v31 (42 : Int32) v13 := e39
  obtain ⟨qb401, qb402, qb403, qb404⟩ := tk_eq (ta := ta) (x := (pf27 11)) (y := (pf11 11)) (by first | with_reducible rfl | with_reducible assumption | omega)
  have hmk_v31 := e39
  have hfm_v31 := MkN.frb (b := v31.toInt) hmk_v31 (by first | with_reducible rfl | with_reducible assumption | omega) (by first | with_reducible rfl | with_reducible assumption | omega)
  have hfs := FsI.mk hfs hmk_v31 (by first | with_reducible rfl | with_reducible assumption | omega) (by first | with_reducible rfl | with_reducible assumption | omega) (by first | with_reducible rfl | with_reducible assumption | omega) (by first | with_reducible rfl | with_reducible assumption | omega)
  have hfb := hfb.tr hfm_v31 (by first | with_reducible rfl | with_reducible assumption | omega)
  have hf_14_v31 := hmk_v31.2.1 (by decide) (by decide)
  have hf_15_v31 := hmk_v31.2.2.1
  have hf_21_v31 := hmk_v31.2.2.2.2.2.2.2.2.1
  clear hmk_v31 hfm_v31
  have lv31 := Int32.le_toInt v31
  have uv31 := Int32.toInt_lt v31
  refine lv_istore_n (lv' := [(2, .int v31), (1, .int z7), (0, .ref h)]) S.x S.b d_Mpg_parameter_38 rfl hl (by decide) rfl (fun ls hl => ?_)
  refine lv_aload_n S.x S.b d_Mpg_parameter_39 rfl (lv_at hl 2 rfl) ?_
  refine px_get S k_Mpg hT hw 0 0 22 (v := .ref (r 22)) rfl rfl rfl (by decide) m10_9 d_Mpg_parameter_40 ?_
  refine lv_iload_n S.x S.b d_Mpg_parameter_43 rfl (lv_at hl 0 rfl) ?_
  refine lv_iload_n S.x S.b d_Mpg_parameter_44 rfl (lv_at hl 1 rfl) ?_
  refine px_iast S hT hw 0 18 (n := 2100) (f := (ma29 22)) (x := v31) (y := z7) rfl gp_22 (vp_in_iff.mpr (by constructor <;> omega)) d_Mpg_parameter_45 (w' := wdP cs h r g tf ta pf27 na28 (va_up ma29 22 (upd (ma29 22) v31.toNatClampNeg z7)) wa cf ca ef ea xf xa) (ps' := [wdP cs h r g tf ta pf27 na28 (va_up ma29 22 (upd (ma29 22) v31.toNatClampNeg z7)) wa cf ca ef ea xf xa]) sp_22 rfl (fun H locs hw => ?_)
  obtain ⟨ma41, hu_ma41⟩ : ∃ y : Nat → Nat → Int32, y = va_up ma29 22 (upd (ma29 22) v31.toNatClampNeg z7) := ⟨_, rfl⟩
  have hw : pw D A s.heap _ _ [wdP cs h r g tf ta pf27 na28 ma41 wa cf ca ef ea xf xa] := (by rw [hu_ma41]; exact hw)
  have hf_22_v31 : ma41 22 v31.toNatClampNeg = z7 := (by rw [hu_ma41, va_up_s, pk_us])
  have hfb : FrB (pf 13).toInt na ma na28 ma41 := (by rw [hu_ma41]; exact FrB.um hfb (by first | with_reducible rfl | with_reducible assumption | omega) (by first | with_reducible rfl | with_reducible assumption | omega))
  refine lv_aload_n S.x S.b d_Mpg_parameter_46 rfl (lv_at hl 2 rfl) ?_
  obtain ⟨sk42, hRsk42, st43, sb44, hSsk42⟩ := oP_lit hP (k := 95) (tx := "[") (n := 1) (List.mem_of_getElem? (i := 39) rfl)
  refine va_ldcS S.x S.b S.own hRsk42 d_Mpg_parameter_47 ?_
  first | refine px_calli (pr := []) (px_runV (As := [.ref sk42]) (rest := []) S (c_mp_is l D cs sk42 1 h r g tf ta pf27 na28 ma41 wa cf ca ef ea xf xa   (show 0 ≤ (pf27 11).toInt from (oz_6773c8d520 e34 e16 tz9 g0)) (show (pf27 11).toInt < (tf 6).toInt from (oz_5d2fbac15b e17 e34)) (show (tf 6).toInt ≤ 2049 from g2) (show 1 ≤ 100 from by first | decide | omega) htk _) hT (pr := []) (pcs := [wdP cs h r g tf ta pf27 na28 ma41 wa cf ca ef ea xf xa]) hw (oX_call (P := (fun A U H => (oP A g U H) ∧ (StS A sk42 1 U H))) (pr := []) (oG_and oG_P oG_Q) hw hA ⟨hP, ⟨_, _, hSsk42⟩⟩) (px_recv hT hw 0 0 rfl rfl rfl) m11_217 m11_214 m11_216 ms_8_14 m1_21 q_Mpg_is ⟨show 3 + 1 ≤ (8 * lv + 24) from by first | with_reducible rfl | with_reducible assumption | omega, show 8 + (2 + 11) + 120 ≤ (220 * lv + 1120) from by first | with_reducible rfl | with_reducible assumption | omega⟩ hl.1 rfl (Nat.le_of_ble_eq_true rfl) d_Mpg_parameter_49 ⟨Nat.le_of_ble_eq_true rfl, Nat.le_of_ble_eq_true rfl⟩) hw hA (fun v46 p45 H locs hp45 hw => ?_) | refine px_calli (pr := []) (px_runV (As := [.ref sk42]) (rest := []) S (c_mp_is l D cs sk42 1 h r g tf ta pf27 na28 ma41 wa cf ca ef ea xf xa   (show 0 ≤ (pf27 11).toInt from by first | exact oz_6773c8d520 e34 e16 tz9 g0 | omega) (show (pf27 11).toInt < (tf 6).toInt from by first | exact oz_5d2fbac15b e17 e34 | omega) (show (tf 6).toInt ≤ 2049 from by first | exact g2 | omega) (show 1 ≤ 100 from by first | decide | omega) htk _) hT (pr := []) (pcs := [wdP cs h r g tf ta pf27 na28 ma41 wa cf ca ef ea xf xa]) hw (oX_call (P := (fun A U H => (oP A g U H) ∧ (StS A sk42 1 U H))) (pr := []) (oG_and oG_P oG_Q) hw hA ⟨hP, ⟨_, _, hSsk42⟩⟩) (px_recv hT hw 0 0 rfl rfl rfl) m11_217 m11_214 m11_216 ms_8_14 m1_21 q_Mpg_is ⟨show 3 + 1 ≤ (8 * lv + 24) from by first | with_reducible rfl | with_reducible assumption | omega, show 8 + (2 + 11) + 120 ≤ (220 * lv + 1120) from by first | with_reducible rfl | with_reducible assumption | omega⟩ hl.1 rfl (Nat.le_of_ble_eq_true rfl) d_Mpg_parameter_49 ⟨Nat.le_of_ble_eq_true rfl, Nat.le_of_ble_eq_true rfl⟩) hw hA (fun v46 p45 H locs hp45 hw => ?_)
  obtain ⟨rfl, e47, e48⟩ := hp45
  have e47 := z_rng e47
  have e48 : v46.toInt = 1 → (pf27 11).toInt + 1 < (tf 6).toInt ∧ so ta (pf27 11) = 5 := e48
  have lv46 := Int32.le_toInt v46
  have uv46 := Int32.toInt_lt v46
  refine lv_if_eq (tgt := 72) S.x S.b d_Mpg_parameter_52 (by decide) (fun c49 => ?_) (fun c49 => ?_)
  · have nc49 : v46.toInt = (0 : Int) := (i_eq (x := v46) (y := 0)).mp c49
    refine lv_iload_n S.x S.b d_Mpg_parameter_72 rfl (lv_at hl 0 rfl) ?_
    first | exact th_iret (v := v31) S hr rfl hlk hAe hw (⟨pf27, na28, ma41, wa, rfl, (show (pf 11).toInt + 1 ≤ (pf27 11).toInt from (oz_72d36d3019 tz9 e34 e16)), (show (pf27 11).toInt < (tf 6).toInt from (oz_5d2fbac15b e17 e34)), (show (pf 13).toInt + 1 ≤ (pf27 13).toInt from (oz_5a83f0d431 e20 e33)), (show (pf27 13).toInt - (pf 13).toInt ≤ (pf27 11).toInt - (pf 11).toInt from (oz_14c9e34823 tz9 e20 e33 e34 e16)), (show bp ta (pf 11) + 1 ≤ bp ta (pf27 11) from (oz_3d09c7e9e0 hnx24.1 qb401 hnx24.2 e18)), (show (pf27 12).toInt = (pf 12).toInt from (oz_1687f4cc65 e19 e35)), (show (pf27 24).toInt = (pf 24).toInt from (oz_1687f4cc65 e21 e36)), (show (pf27 25).toInt = (pf 25).toInt from (oz_1687f4cc65 e22 e37)), (show (pf27 26).toInt = (pf 26).toInt from (oz_1687f4cc65 e23 e38)), (show bp ta (pf 11) + 2 ≤ bp ta (pf27 11) from (oz_d7a4949520 hnx24.1 qb401 hnx24.2 e18)), (show FrB (pf 13).toInt na ma na28 ma41 from hfb), (show FrW (pf 26).toInt wa wa from hfw), (show VlP ta (tf 6).toInt na28 ma41 v31 (pf 13).toInt (pf27 13).toInt (3 * (bp ta (pf27 11) - bp ta (pf 11))) 130 from (VlV.le (vl_par (hi := (pf27 13).toInt) (D := 130) ⟨by first | with_reducible rfl | with_reducible assumption | omega, hf_14_v31, hf_15_v31, ⟨by first | with_reducible rfl | with_reducible assumption | omega, by first | with_reducible rfl | with_reducible assumption | omega⟩, hf_21_v31⟩ (show SoIs ta v13 1 by assumption) (by first | with_reducible rfl | with_reducible assumption | omega) hf_22_v31 (by first | with_reducible rfl | with_reducible assumption | omega) (by first | with_reducible rfl | with_reducible assumption | omega)) (by first | with_reducible rfl | with_reducible assumption | omega) (by first | with_reducible rfl | with_reducible assumption | omega) (by first | with_reducible rfl | with_reducible assumption | omega) (by first | with_reducible rfl | with_reducible assumption | omega))), (show FsI (tf 6).toInt (pf27 13).toInt na28 from (FsI.le hfs (by first | with_reducible rfl | with_reducible assumption | omega)))⟩) d_Mpg_parameter_73 | exact th_iret (v := v31) S hr rfl hlk hAe hw (⟨pf27, na28, ma41, wa, rfl, (show (pf 11).toInt + 1 ≤ (pf27 11).toInt from by first | exact oz_72d36d3019 tz9 e34 e16 | omega), (show (pf27 11).toInt < (tf 6).toInt from by first | exact oz_5d2fbac15b e17 e34 | omega), (show (pf 13).toInt + 1 ≤ (pf27 13).toInt from by first | exact oz_5a83f0d431 e20 e33 | omega), (show (pf27 13).toInt - (pf 13).toInt ≤ (pf27 11).toInt - (pf 11).toInt from by first | exact oz_14c9e34823 tz9 e20 e33 e34 e16 | omega), (show bp ta (pf 11) + 1 ≤ bp ta (pf27 11) from by first | exact oz_3d09c7e9e0 hnx24.1 qb401 hnx24.2 e18 | omega), (show (pf27 12).toInt = (pf 12).toInt from by first | exact oz_1687f4cc65 e19 e35 | omega), (show (pf27 24).toInt = (pf 24).toInt from by first | exact oz_1687f4cc65 e21 e36 | omega), (show (pf27 25).toInt = (pf 25).toInt from by first | exact oz_1687f4cc65 e22 e37 | omega), (show (pf27 26).toInt = (pf 26).toInt from by first | exact oz_1687f4cc65 e23 e38 | omega), (show bp ta (pf 11) + 2 ≤ bp ta (pf27 11) from by first | exact oz_d7a4949520 hnx24.1 qb401 hnx24.2 e18 | omega), (show FrB (pf 13).toInt na ma na28 ma41 from hfb), (show FrW (pf 26).toInt wa wa from hfw), (show VlP ta (tf 6).toInt na28 ma41 v31 (pf 13).toInt (pf27 13).toInt (3 * (bp ta (pf27 11) - bp ta (pf 11))) 130 from (VlV.le (vl_par (hi := (pf27 13).toInt) (D := 130) ⟨by first | with_reducible rfl | with_reducible assumption | omega, hf_14_v31, hf_15_v31, ⟨by first | with_reducible rfl | with_reducible assumption | omega, by first | with_reducible rfl | with_reducible assumption | omega⟩, hf_21_v31⟩ (show SoIs ta v13 1 by assumption) (by first | with_reducible rfl | with_reducible assumption | omega) hf_22_v31 (by first | with_reducible rfl | with_reducible assumption | omega) (by first | with_reducible rfl | with_reducible assumption | omega)) (by first | with_reducible rfl | with_reducible assumption | omega) (by first | with_reducible rfl | with_reducible assumption | omega) (by first | with_reducible rfl | with_reducible assumption | omega) (by first | with_reducible rfl | with_reducible assumption | omega))), (show FsI (tf 6).toInt (pf27 13).toInt na28 from (FsI.le hfs (by first | with_reducible rfl | with_reducible assumption | omega)))⟩) d_Mpg_parameter_73
  · have nc49 : ¬ v46.toInt = (0 : Int) := mt (i_eq (x := v46) (y := 0)).mpr c49
    refine lv_aload_n S.x S.b d_Mpg_parameter_55 rfl (lv_at hl 2 rfl) ?_
    first | refine th_callv (ps0 := [wdP cs h r g tf ta pf na ma wa cf ca ef ea xf xa]) (pr := []) (pcs := [wdP cs h r g tf ta pf27 na28 ma41 wa cf ca ef ea xf xa]) (As := []) (rest := []) (c_mp_opens l D cs h r g tf ta na28 ma41 wa cf ca ef ea xf xa pf27   (show 0 ≤ (pf27 11).toInt from (oz_6773c8d520 e34 e16 tz9 g0)) (show (pf27 11).toInt < (tf 6).toInt from (oz_5d2fbac15b e17 e34)) (show (tf 6).toInt ≤ 2049 from g2) (show (pf27 11).toInt + 1 < (tf 6).toInt from by first | with_reducible rfl | with_reducible assumption | omega) (show 0 ≤ (pf27 12).toInt from (oz_9bcc310e9c e35 e19 g8 g7)) (show (pf27 12).toInt ≤ 60 from (oz_d791cd839d e35 e19 g4)) hlf htk) S hT hw (oX_call (P := (fun A U H => (oN A U H) ∧ (oP A g U H))) (pr := []) (oG_and oG_N oG_P) hw hA ⟨hN, hP⟩) (px_recv hT hw 0 0 rfl rfl rfl) m11_238 m11_235 m11_237 ms_9_1 m1_21 q_Mpg_opens ⟨show 7 + 1 ≤ (8 * lv + 24) from by first | with_reducible rfl | with_reducible assumption | omega, show 8 + (1 + 11) + 150 ≤ (220 * lv + 1120) from by first | with_reducible rfl | with_reducible assumption | omega⟩ hl.1 rfl (Nat.le_of_ble_eq_true rfl) d_Mpg_parameter_56 ⟨Nat.le_of_ble_eq_true rfl, Nat.le_of_ble_eq_true rfl⟩ hne hlk hA hAe (fun o t h => Or.inr h) ?_ (fun p52 H locs hp52 hw => ?_) | refine th_callv (ps0 := [wdP cs h r g tf ta pf na ma wa cf ca ef ea xf xa]) (pr := []) (pcs := [wdP cs h r g tf ta pf27 na28 ma41 wa cf ca ef ea xf xa]) (As := []) (rest := []) (c_mp_opens l D cs h r g tf ta na28 ma41 wa cf ca ef ea xf xa pf27   (show 0 ≤ (pf27 11).toInt from by first | exact oz_6773c8d520 e34 e16 tz9 g0 | omega) (show (pf27 11).toInt < (tf 6).toInt from by first | exact oz_5d2fbac15b e17 e34 | omega) (show (tf 6).toInt ≤ 2049 from by first | exact g2 | omega) (show (pf27 11).toInt + 1 < (tf 6).toInt from by first | with_reducible rfl | with_reducible assumption | omega) (show 0 ≤ (pf27 12).toInt from by first | exact oz_9bcc310e9c e35 e19 g8 g7 | omega) (show (pf27 12).toInt ≤ 60 from by first | exact oz_d791cd839d e35 e19 g4 | omega) hlf htk) S hT hw (oX_call (P := (fun A U H => (oN A U H) ∧ (oP A g U H))) (pr := []) (oG_and oG_N oG_P) hw hA ⟨hN, hP⟩) (px_recv hT hw 0 0 rfl rfl rfl) m11_238 m11_235 m11_237 ms_9_1 m1_21 q_Mpg_opens ⟨show 7 + 1 ≤ (8 * lv + 24) from by first | with_reducible rfl | with_reducible assumption | omega, show 8 + (1 + 11) + 150 ≤ (220 * lv + 1120) from by first | with_reducible rfl | with_reducible assumption | omega⟩ hl.1 rfl (Nat.le_of_ble_eq_true rfl) d_Mpg_parameter_56 ⟨Nat.le_of_ble_eq_true rfl, Nat.le_of_ble_eq_true rfl⟩ hne hlk hA hAe (fun o t h => Or.inr h) ?_ (fun p52 H locs hp52 hw => ?_)
    · exact fun p1 H1 locs1 hp hw => by obtain ⟨pq1, pq2, pq3, pq4, rfl, hq1, hq2⟩ := hp; exact ⟨_, ⟨pq1, pq2, pq3, pq4, rfl, hq1, hq2⟩, hw⟩
    obtain ⟨pf51, rfl, e54, e55, e56, e57, e58, e59, e60, e61, e62, e63⟩ := hp52
    have e54 : (pf51 11).toInt = (pf27 11).toInt + 1 := e54
    have e55 : (pf51 11).toInt < (tf 6).toInt := e55
    have e56 : bp ta (pf27 11) + sz ta (pf27 11) ≤ bp ta (pf51 11) := e56
    have e57 : 1 ≤ sz ta (pf27 11) := e57
    have e58 : (pf51 12).toInt = (pf27 12).toInt + 1 := e58
    have e59 : (pf27 12).toInt < 60 := e59
    have e60 : (pf51 13).toInt = (pf27 13).toInt := e60
    have e61 : (pf51 24).toInt = (pf27 24).toInt := e61
    have e62 : (pf51 25).toInt = (pf27 25).toInt := e62
    have e63 : (pf51 26).toInt = (pf27 26).toInt := e63
    refine lv_aload_n S.x S.b d_Mpg_parameter_59 rfl (lv_at hl 2 rfl) ?_
    obtain ⟨sk64, hRsk64, st65, sb66, hSsk64⟩ := oP_lit hP (k := 97) (tx := "]") (n := 1) (List.mem_of_getElem? (i := 40) rfl)
    refine va_ldcS S.x S.b S.own hRsk64 d_Mpg_parameter_60 ?_
    first | refine th_callv (ps0 := [wdP cs h r g tf ta pf na ma wa cf ca ef ea xf xa]) (pr := []) (pcs := [wdP cs h r g tf ta pf51 na28 ma41 wa cf ca ef ea xf xa]) (As := [.ref sk64]) (rest := []) (c_mp_closes l D cs sk64 1 h r g tf ta na28 ma41 wa cf ca ef ea xf xa pf51   (show 0 ≤ (pf51 11).toInt from (oz_3d27b98b25 e54 e34 g0 tz9 e16)) (show (pf51 11).toInt < (tf 6).toInt from e55) (show (tf 6).toInt ≤ 2049 from g2) (show 1 ≤ (pf51 12).toInt from (oz_e5933a4a2c e58 e35 e19 g3)) (show (pf51 12).toInt ≤ 60 from (oz_6710fd9021 e58 e59)) (show 1 ≤ 100 from by first | decide | omega) hlf htk) S hT hw (oX_call (P := (fun A U H => (oN A U H) ∧ (oP A g U H) ∧ (StS A sk64 1 U H))) (pr := []) (oG_and oG_N (oG_and oG_P oG_Q)) hw hA ⟨hN, hP, ⟨_, _, hSsk64⟩⟩) (px_recv hT hw 0 0 rfl rfl rfl) m12_53 m12_50 m12_52 ms_9_14 m1_21 q_Mpg_closes ⟨show 8 + 1 ≤ (8 * lv + 24) from by first | with_reducible rfl | with_reducible assumption | omega, show 8 + (2 + 11) + 280 ≤ (220 * lv + 1120) from by first | with_reducible rfl | with_reducible assumption | omega⟩ hl.1 rfl (Nat.le_of_ble_eq_true rfl) d_Mpg_parameter_62 ⟨Nat.le_of_ble_eq_true rfl, Nat.le_of_ble_eq_true rfl⟩ hne hlk hA hAe (fun o t h => Or.inr h) ?_ (fun p69 H locs hp69 hw => ?_) | refine th_callv (ps0 := [wdP cs h r g tf ta pf na ma wa cf ca ef ea xf xa]) (pr := []) (pcs := [wdP cs h r g tf ta pf51 na28 ma41 wa cf ca ef ea xf xa]) (As := [.ref sk64]) (rest := []) (c_mp_closes l D cs sk64 1 h r g tf ta na28 ma41 wa cf ca ef ea xf xa pf51   (show 0 ≤ (pf51 11).toInt from by first | exact oz_3d27b98b25 e54 e34 g0 tz9 e16 | omega) (show (pf51 11).toInt < (tf 6).toInt from by first | exact e55 | omega) (show (tf 6).toInt ≤ 2049 from by first | exact g2 | omega) (show 1 ≤ (pf51 12).toInt from by first | exact oz_e5933a4a2c e58 e35 e19 g3 | omega) (show (pf51 12).toInt ≤ 60 from by first | exact oz_6710fd9021 e58 e59 | omega) (show 1 ≤ 100 from by first | decide | omega) hlf htk) S hT hw (oX_call (P := (fun A U H => (oN A U H) ∧ (oP A g U H) ∧ (StS A sk64 1 U H))) (pr := []) (oG_and oG_N (oG_and oG_P oG_Q)) hw hA ⟨hN, hP, ⟨_, _, hSsk64⟩⟩) (px_recv hT hw 0 0 rfl rfl rfl) m12_53 m12_50 m12_52 ms_9_14 m1_21 q_Mpg_closes ⟨show 8 + 1 ≤ (8 * lv + 24) from by first | with_reducible rfl | with_reducible assumption | omega, show 8 + (2 + 11) + 280 ≤ (220 * lv + 1120) from by first | with_reducible rfl | with_reducible assumption | omega⟩ hl.1 rfl (Nat.le_of_ble_eq_true rfl) d_Mpg_parameter_62 ⟨Nat.le_of_ble_eq_true rfl, Nat.le_of_ble_eq_true rfl⟩ hne hlk hA hAe (fun o t h => Or.inr h) ?_ (fun p69 H locs hp69 hw => ?_)
    · exact fun p1 H1 locs1 hp hw => by obtain ⟨pq1, pq2, pq3, pq4, rfl, hq1, hq2⟩ := hp; exact ⟨_, ⟨pq1, pq2, pq3, pq4, rfl, hq1, hq2⟩, hw⟩
    obtain ⟨pf68, rfl, e71, e72, e73, e74, e75, e76, e77, e78⟩ := hp69
    have e71 : (pf68 11).toInt = (pf51 11).toInt + 1 := e71
    have e72 : (pf68 11).toInt < (tf 6).toInt := e72
    have e73 : bp ta (pf51 11) + 1 ≤ bp ta (pf68 11) := e73
    have e74 : (pf68 12).toInt = (pf51 12).toInt - 1 := e74
    have e75 : (pf68 13).toInt = (pf51 13).toInt := e75
    have e76 : (pf68 24).toInt = (pf51 24).toInt := e76
    have e77 : (pf68 25).toInt = (pf51 25).toInt := e77
    have e78 : (pf68 26).toInt = (pf51 26).toInt := e78
    refine lv_aload_n S.x S.b d_Mpg_parameter_65 rfl (lv_at hl 2 rfl) ?_
    refine px_get S k_Mpg hT hw 0 0 17 (v := .ref (r 17)) rfl rfl rfl (by decide) m10_1 d_Mpg_parameter_66 ?_
    refine lv_iload_n S.x S.b d_Mpg_parameter_69 rfl (lv_at hl 0 rfl) ?_
    refine lv_iconst (v := 1) S.x S.b d_Mpg_parameter_70 (by decide) ?_
    refine px_iast S hT hw 0 13 (n := 2100) (f := (na28 17)) (x := v31) (y := 1) rfl gp_17 (vp_in_iff.mpr (by constructor <;> omega)) d_Mpg_parameter_71 (w' := wdP cs h r g tf ta pf68 (va_up na28 17 (upd (na28 17) v31.toNatClampNeg 1)) ma41 wa cf ca ef ea xf xa) (ps' := [wdP cs h r g tf ta pf68 (va_up na28 17 (upd (na28 17) v31.toNatClampNeg 1)) ma41 wa cf ca ef ea xf xa]) sp_17 rfl (fun H locs hw => ?_)
    obtain ⟨na79, hu_na79⟩ : ∃ y : Nat → Nat → Int32, y = va_up na28 17 (upd (na28 17) v31.toNatClampNeg 1) := ⟨_, rfl⟩
    have hw : pw D A s.heap _ _ [wdP cs h r g tf ta pf68 na79 ma41 wa cf ca ef ea xf xa] := (by rw [hu_na79]; exact hw)
    have hf_14_v31 := (fl_n hu_na79 (by decide)).trans hf_14_v31
    have hf_15_v31 := (fl_n hu_na79 (by decide)).trans hf_15_v31
    have hf_21_v31 := (fl_n hu_na79 (by decide)).trans hf_21_v31
    have hf_17_v31 : na79 17 v31.toNatClampNeg = (1 : Int32) := (by rw [hu_na79, va_up_s, pk_us])
    have hfs : FsI _ _ na79 := (by rw [hu_na79]; exact FsI.un hfs (by decide))
    have hfb : FrB (pf 13).toInt na ma na79 ma41 := (by rw [hu_na79]; exact FrB.un hfb (by first | with_reducible rfl | with_reducible assumption | omega) (by first | with_reducible rfl | with_reducible assumption | omega))
    refine lv_iload_n S.x S.b d_Mpg_parameter_72 rfl (lv_at hl 0 rfl) ?_
    first | exact th_iret (v := v31) S hr rfl hlk hAe hw (⟨pf68, na79, ma41, wa, rfl, (show (pf 11).toInt + 1 ≤ (pf68 11).toInt from (oz_95ed43b5eb tz9 e71 e16 e54 e34)), (show (pf68 11).toInt < (tf 6).toInt from e72), (show (pf 13).toInt + 1 ≤ (pf68 13).toInt from (oz_68556fc0a8 e20 e75 e33 e60)), (show (pf68 13).toInt - (pf 13).toInt ≤ (pf68 11).toInt - (pf 11).toInt from (oz_853f55781e tz9 e20 e71 e75 e16 e33 e54 e60 e34)), (show bp ta (pf 11) + 1 ≤ bp ta (pf68 11) from (oz_49b4adb997 hnx24.1 e73 hnx24.2 e18 e56 qb401 e57)), (show (pf68 12).toInt = (pf 12).toInt from (oz_a3348d681e e19 e74 e35 e58)), (show (pf68 24).toInt = (pf 24).toInt from (oz_ff3084e3c1 e21 e76 e36 e61)), (show (pf68 25).toInt = (pf 25).toInt from (oz_ff3084e3c1 e22 e77 e37 e62)), (show (pf68 26).toInt = (pf 26).toInt from (oz_ff3084e3c1 e23 e78 e38 e63)), (show bp ta (pf 11) + 2 ≤ bp ta (pf68 11) from (oz_806f2fa6e8 hnx24.1 e73 hnx24.2 e18 e56 qb401 e57)), (show FrB (pf 13).toInt na ma na79 ma41 from hfb), (show FrW (pf 26).toInt wa wa from hfw), (show VlP ta (tf 6).toInt na79 ma41 v31 (pf 13).toInt (pf68 13).toInt (3 * (bp ta (pf68 11) - bp ta (pf 11))) 130 from (VlV.le (vl_par (hi := (pf68 13).toInt) (D := 130) ⟨by first | with_reducible rfl | with_reducible assumption | omega, hf_14_v31, hf_15_v31, ⟨by first | with_reducible rfl | with_reducible assumption | omega, by first | with_reducible rfl | with_reducible assumption | omega⟩, hf_21_v31⟩ (show SoIs ta v13 1 by assumption) (by first | with_reducible rfl | with_reducible assumption | omega) hf_22_v31 (by first | with_reducible rfl | with_reducible assumption | omega) (by first | with_reducible rfl | with_reducible assumption | omega)) (by first | with_reducible rfl | with_reducible assumption | omega) (by first | with_reducible rfl | with_reducible assumption | omega) (by first | with_reducible rfl | with_reducible assumption | omega) (by first | with_reducible rfl | with_reducible assumption | omega))), (show FsI (tf 6).toInt (pf68 13).toInt na79 from (FsI.le hfs (by first | with_reducible rfl | with_reducible assumption | omega)))⟩) d_Mpg_parameter_73 | exact th_iret (v := v31) S hr rfl hlk hAe hw (⟨pf68, na79, ma41, wa, rfl, (show (pf 11).toInt + 1 ≤ (pf68 11).toInt from by first | exact oz_95ed43b5eb tz9 e71 e16 e54 e34 | omega), (show (pf68 11).toInt < (tf 6).toInt from by first | exact e72 | omega), (show (pf 13).toInt + 1 ≤ (pf68 13).toInt from by first | exact oz_68556fc0a8 e20 e75 e33 e60 | omega), (show (pf68 13).toInt - (pf 13).toInt ≤ (pf68 11).toInt - (pf 11).toInt from by first | exact oz_853f55781e tz9 e20 e71 e75 e16 e33 e54 e60 e34 | omega), (show bp ta (pf 11) + 1 ≤ bp ta (pf68 11) from by first | exact oz_49b4adb997 hnx24.1 e73 hnx24.2 e18 e56 qb401 e57 | omega), (show (pf68 12).toInt = (pf 12).toInt from by first | exact oz_a3348d681e e19 e74 e35 e58 | omega), (show (pf68 24).toInt = (pf 24).toInt from by first | exact oz_ff3084e3c1 e21 e76 e36 e61 | omega), (show (pf68 25).toInt = (pf 25).toInt from by first | exact oz_ff3084e3c1 e22 e77 e37 e62 | omega), (show (pf68 26).toInt = (pf 26).toInt from by first | exact oz_ff3084e3c1 e23 e78 e38 e63 | omega), (show bp ta (pf 11) + 2 ≤ bp ta (pf68 11) from by first | exact oz_806f2fa6e8 hnx24.1 e73 hnx24.2 e18 e56 qb401 e57 | omega), (show FrB (pf 13).toInt na ma na79 ma41 from hfb), (show FrW (pf 26).toInt wa wa from hfw), (show VlP ta (tf 6).toInt na79 ma41 v31 (pf 13).toInt (pf68 13).toInt (3 * (bp ta (pf68 11) - bp ta (pf 11))) 130 from (VlV.le (vl_par (hi := (pf68 13).toInt) (D := 130) ⟨by first | with_reducible rfl | with_reducible assumption | omega, hf_14_v31, hf_15_v31, ⟨by first | with_reducible rfl | with_reducible assumption | omega, by first | with_reducible rfl | with_reducible assumption | omega⟩, hf_21_v31⟩ (show SoIs ta v13 1 by assumption) (by first | with_reducible rfl | with_reducible assumption | omega) hf_22_v31 (by first | with_reducible rfl | with_reducible assumption | omega) (by first | with_reducible rfl | with_reducible assumption | omega)) (by first | with_reducible rfl | with_reducible assumption | omega) (by first | with_reducible rfl | with_reducible assumption | omega) (by first | with_reducible rfl | with_reducible assumption | omega) (by first | with_reducible rfl | with_reducible assumption | omega))), (show FsI (tf 6).toInt (pf68 13).toInt na79 from (FsI.le hfs (by first | with_reducible rfl | with_reducible assumption | omega)))⟩) d_Mpg_parameter_73
abbrev b_Mpg_add : ByteArray := prog_16_method_57_code
def y_Mpg_add : MethodName := ⟨"HomeSystemModel$Program", "add", "(I)V"⟩
theorem d_Mpg_add_0 : decode b_Mpg_add 0 = .ok (.aload_n 0, 1) := by decide +kernel
theorem d_Mpg_add_1 : decode b_Mpg_add 1 = .ok (.aload_n 0, 1) := by decide +kernel
theorem d_Mpg_add_2 : decode b_Mpg_add 2 = .ok (.aload_n 0, 1) := by decide +kernel
theorem d_Mpg_add_3 : decode b_Mpg_add 3 = .ok (.getfield 500, 3) := by decide +kernel
theorem d_Mpg_add_6 : decode b_Mpg_add 6 = .ok (.aload_n 0, 1) := by decide +kernel
theorem d_Mpg_add_7 : decode b_Mpg_add 7 = .ok (.getfield 503, 3) := by decide +kernel
theorem d_Mpg_add_10 : decode b_Mpg_add 10 = .ok (.iload_n 1, 1) := by decide +kernel
theorem d_Mpg_add_11 : decode b_Mpg_add 11 = .ok (.invokevirtual 466, 3) := by decide +kernel
theorem d_Mpg_add_14 : decode b_Mpg_add 14 = .ok (.putfield 500, 3) := by decide +kernel
theorem d_Mpg_add_17 : decode b_Mpg_add 17 = .ok (.aload_n 0, 1) := by decide +kernel
theorem d_Mpg_add_18 : decode b_Mpg_add 18 = .ok (.iload_n 1, 1) := by decide +kernel
theorem d_Mpg_add_19 : decode b_Mpg_add 19 = .ok (.putfield 503, 3) := by decide +kernel
theorem d_Mpg_add_22 : decode b_Mpg_add 22 = .ok (.return_, 1) := by decide +kernel
theorem q_Mpg_add : px_y y_Mpg_add 1 := by unfold px_y; decide +kernel
set_option maxHeartbeats 4000000 in
set_option maxRecDepth 100000 in
theorem c_mp_add (l : Launch) (D : va_G) (cs : Nat → ClassId) (h : Nat) (r : Nat → Nat) (g : Nat → Nat → Option Nat) (tf : Nat → Int32) (ta : Nat → Nat → Int32) (ma : Nat → Nat → Int32) (wa : Nat → Nat → Int32) (cf : Nat → Int32) (ca : Nat → Nat → Int32) (ef : Nat → Int32) (ea : Nat → Nat → Int32) (xf : Nat → Int32) (xa : Nat → Nat → Int32) (pf : Nat → Int32) (na : Nat → Nat → Int32) (p0 : Int32)  (g0 : (pf 25).toInt < 2100) (htk : TkI tf ta) : MetV l y_Mpg_add b_Mpg_add 2 D cs 1 30 (0) (0) [.ref h, .int p0] [wdP cs h r g tf ta pf na ma wa cf ca ef ea xf xa] (fun _ => True) (fun ps => ∃ (pf' : Nat → Int32) (na' : Nat → Nat → Int32), (ps = [wdP cs h r g tf ta pf' na' ma wa cf ca ef ea xf xa]) ∧ ((pf' 11).toInt = (pf 11).toInt) ∧ ((pf' 12).toInt = (pf 12).toInt) ∧ ((pf' 13).toInt = (pf 13).toInt) ∧ ((pf' 26).toInt = (pf 26).toInt) ∧ ((pf' 25).toInt = p0.toInt) ∧ (Hg na na' (pf 24) (pf 25) p0 (pf' 24))) := by
  refine px_enter (by decide) (Nat.le_of_ble_eq_true rfl) ?_
  intro p e s m below meth c A ls hAe S hr hlk hnm hA hT hX hw hl
  have hl : lv_has ls 2 [(0, .ref h), (1, .int p0)] := hl
  have lp0 := Int32.le_toInt p0
  have up0 := Int32.toInt_lt p0
  refine lv_aload_n S.x S.b d_Mpg_add_0 rfl (lv_at hl 0 rfl) ?_
  refine lv_aload_n S.x S.b d_Mpg_add_1 rfl (lv_at hl 0 rfl) ?_
  refine lv_aload_n S.x S.b d_Mpg_add_2 rfl (lv_at hl 0 rfl) ?_
  refine px_get S k_Mpg hT hw 0 0 24 (v := .int (pf 24)) rfl rfl rfl (by decide) m10_12 d_Mpg_add_3 ?_
  refine lv_aload_n S.x S.b d_Mpg_add_6 rfl (lv_at hl 0 rfl) ?_
  refine px_get S k_Mpg hT hw 0 0 25 (v := .int (pf 25)) rfl rfl rfl (by decide) m10_13 d_Mpg_add_7 ?_
  refine lv_iload_n S.x S.b d_Mpg_add_10 rfl (lv_at hl 1 rfl) ?_
  first | refine px_calli (pr := []) (px_runV (As := [.int (pf 24), .int (pf 25), .int p0]) (rest := [.ref h]) S (c_mp_hang l D cs h r g tf ta pf ma wa cf ca ef ea xf xa na (pf 24) (pf 25) p0  (show (pf 25).toInt < 2100 from g0) htk _) hT (pr := []) (pcs := [wdP cs h r g tf ta pf na ma wa cf ca ef ea xf xa]) hw px_X.tt (px_recv hT hw 0 0 rfl rfl rfl) m12_77 m12_74 m12_76 ms_10_4 m1_21 q_Mpg_hang ⟨Nat.le_of_ble_eq_true rfl, Nat.le_of_ble_eq_true rfl⟩ hl.1 rfl (Nat.le_of_ble_eq_true rfl) d_Mpg_add_11 ⟨Nat.le_of_ble_eq_true rfl, Nat.le_of_ble_eq_true rfl⟩) hw hA (fun v4 p3 H locs hp3 hw => ?_) | refine px_calli (pr := []) (px_runV (As := [.int (pf 24), .int (pf 25), .int p0]) (rest := [.ref h]) S (c_mp_hang l D cs h r g tf ta pf ma wa cf ca ef ea xf xa na (pf 24) (pf 25) p0  (show (pf 25).toInt < 2100 from by first | exact g0 | omega) htk _) hT (pr := []) (pcs := [wdP cs h r g tf ta pf na ma wa cf ca ef ea xf xa]) hw px_X.tt (px_recv hT hw 0 0 rfl rfl rfl) m12_77 m12_74 m12_76 ms_10_4 m1_21 q_Mpg_hang ⟨Nat.le_of_ble_eq_true rfl, Nat.le_of_ble_eq_true rfl⟩ hl.1 rfl (Nat.le_of_ble_eq_true rfl) d_Mpg_add_11 ⟨Nat.le_of_ble_eq_true rfl, Nat.le_of_ble_eq_true rfl⟩) hw hA (fun v4 p3 H locs hp3 hw => ?_)
  obtain ⟨na2, rfl, e5⟩ := hp3
  have e5 : Hg na na2 (pf 24) (pf 25) p0 v4 := e5
  have lv4 := Int32.le_toInt v4
  have uv4 := Int32.toInt_lt v4
  refine px_put S k_Mpg hT hw 0 0 24 rfl rfl (by decide) m10_12 rfl rfl rfl (Nat.le_of_ble_eq_true rfl) d_Mpg_add_14 (w' := wdP cs h r g tf ta (upd pf 24 v4) na2 ma wa cf ca ef ea xf xa) (ps' := [wdP cs h r g tf ta (upd pf 24 v4) na2 ma wa cf ca ef ea xf xa]) rfl rfl (fun H locs hw => ?_)
  refine lv_aload_n S.x S.b d_Mpg_add_17 rfl (lv_at hl 0 rfl) ?_
  refine lv_iload_n S.x S.b d_Mpg_add_18 rfl (lv_at hl 1 rfl) ?_
  refine px_put S k_Mpg hT hw 0 0 25 rfl rfl (by decide) m10_13 rfl rfl rfl (Nat.le_of_ble_eq_true rfl) d_Mpg_add_19 (w' := wdP cs h r g tf ta (upd (upd pf 24 v4) 25 p0) na2 ma wa cf ca ef ea xf xa) (ps' := [wdP cs h r g tf ta (upd (upd pf 24 v4) 25 p0) na2 ma wa cf ca ef ea xf xa]) rfl rfl (fun H locs hw => ?_)
  exact px_vret S hr hlk hAe hw (Nat.le_of_ble_eq_true rfl) (Nat.le_of_ble_eq_true rfl) (⟨(upd (upd pf 24 v4) 25 p0), na2, rfl, (show (pf 11).toInt = (pf 11).toInt from rfl), (show (pf 12).toInt = (pf 12).toInt from rfl), (show (pf 13).toInt = (pf 13).toInt from rfl), (show (pf 26).toInt = (pf 26).toInt from rfl), (show p0.toInt = p0.toInt from rfl), (show Hg na na2 (pf 24) (pf 25) p0 v4 from (by assumption))⟩) d_Mpg_add_22
abbrev b_Mpg_enumeration : ByteArray := prog_16_method_58_code
def y_Mpg_enumeration : MethodName := ⟨"HomeSystemModel$Program", "enumeration", "()V"⟩
theorem d_Mpg_enumeration_0 : decode b_Mpg_enumeration 0 = .ok (.aload_n 0, 1) := by decide +kernel
theorem d_Mpg_enumeration_1 : decode b_Mpg_enumeration 1 = .ok (.bipush 43, 2) := by decide +kernel
theorem d_Mpg_enumeration_3 : decode b_Mpg_enumeration 3 = .ok (.aload_n 0, 1) := by decide +kernel
theorem d_Mpg_enumeration_4 : decode b_Mpg_enumeration 4 = .ok (.getfield 360, 3) := by decide +kernel
theorem d_Mpg_enumeration_7 : decode b_Mpg_enumeration 7 = .ok (.invokevirtual 406, 3) := by decide +kernel
theorem d_Mpg_enumeration_10 : decode b_Mpg_enumeration 10 = .ok (.istore_n 1, 1) := by decide +kernel
theorem d_Mpg_enumeration_11 : decode b_Mpg_enumeration 11 = .ok (.aload_n 0, 1) := by decide +kernel
theorem d_Mpg_enumeration_12 : decode b_Mpg_enumeration 12 = .ok (.dup, 1) := by decide +kernel
theorem d_Mpg_enumeration_13 : decode b_Mpg_enumeration 13 = .ok (.getfield 360, 3) := by decide +kernel
theorem d_Mpg_enumeration_16 : decode b_Mpg_enumeration 16 = .ok (.iconst 1, 1) := by decide +kernel
theorem d_Mpg_enumeration_17 : decode b_Mpg_enumeration 17 = .ok (.iadd, 1) := by decide +kernel
theorem d_Mpg_enumeration_18 : decode b_Mpg_enumeration 18 = .ok (.putfield 360, 3) := by decide +kernel
theorem d_Mpg_enumeration_21 : decode b_Mpg_enumeration 21 = .ok (.aload_n 0, 1) := by decide +kernel
theorem d_Mpg_enumeration_22 : decode b_Mpg_enumeration 22 = .ok (.ldc 91, 2) := by decide +kernel
theorem d_Mpg_enumeration_24 : decode b_Mpg_enumeration 24 = .ok (.invokevirtual 457, 3) := by decide +kernel
theorem d_Mpg_enumeration_27 : decode b_Mpg_enumeration 27 = .ok (.iconst (-1), 1) := by decide +kernel
theorem d_Mpg_enumeration_28 : decode b_Mpg_enumeration 28 = .ok (.istore_n 2, 1) := by decide +kernel
theorem d_Mpg_enumeration_29 : decode b_Mpg_enumeration 29 = .ok (.iconst 1, 1) := by decide +kernel
theorem d_Mpg_enumeration_30 : decode b_Mpg_enumeration 30 = .ok (.istore_n 3, 1) := by decide +kernel
theorem d_Mpg_enumeration_31 : decode b_Mpg_enumeration 31 = .ok (.iload_n 3, 1) := by decide +kernel
theorem d_Mpg_enumeration_32 : decode b_Mpg_enumeration 32 = .ok (.ifCond .eq 67, 3) := by decide +kernel
theorem d_Mpg_enumeration_35 : decode b_Mpg_enumeration 35 = .ok (.aload_n 0, 1) := by decide +kernel
theorem d_Mpg_enumeration_36 : decode b_Mpg_enumeration 36 = .ok (.bipush 44, 2) := by decide +kernel
theorem d_Mpg_enumeration_38 : decode b_Mpg_enumeration 38 = .ok (.aload_n 0, 1) := by decide +kernel
theorem d_Mpg_enumeration_39 : decode b_Mpg_enumeration 39 = .ok (.invokevirtual 442, 3) := by decide +kernel
theorem d_Mpg_enumeration_42 : decode b_Mpg_enumeration 42 = .ok (.invokevirtual 406, 3) := by decide +kernel
theorem d_Mpg_enumeration_45 : decode b_Mpg_enumeration 45 = .ok (.istore 4, 2) := by decide +kernel
theorem d_Mpg_enumeration_47 : decode b_Mpg_enumeration 47 = .ok (.aload_n 0, 1) := by decide +kernel
theorem d_Mpg_enumeration_48 : decode b_Mpg_enumeration 48 = .ok (.ldc 107, 2) := by decide +kernel
theorem d_Mpg_enumeration_50 : decode b_Mpg_enumeration 50 = .ok (.invokevirtual 370, 3) := by decide +kernel
theorem d_Mpg_enumeration_53 : decode b_Mpg_enumeration 53 = .ok (.ifCond .eq 14, 3) := by decide +kernel
theorem d_Mpg_enumeration_56 : decode b_Mpg_enumeration 56 = .ok (.aload_n 0, 1) := by decide +kernel
theorem d_Mpg_enumeration_57 : decode b_Mpg_enumeration 57 = .ok (.getfield 216, 3) := by decide +kernel
theorem d_Mpg_enumeration_60 : decode b_Mpg_enumeration 60 = .ok (.iload 4, 2) := by decide +kernel
theorem d_Mpg_enumeration_62 : decode b_Mpg_enumeration 62 = .ok (.aload_n 0, 1) := by decide +kernel
theorem d_Mpg_enumeration_63 : decode b_Mpg_enumeration 63 = .ok (.invokevirtual 451, 3) := by decide +kernel
theorem d_Mpg_enumeration_66 : decode b_Mpg_enumeration 66 = .ok (.iastore, 1) := by decide +kernel
theorem d_Mpg_enumeration_67 : decode b_Mpg_enumeration 67 = .ok (.aload_n 0, 1) := by decide +kernel
theorem d_Mpg_enumeration_68 : decode b_Mpg_enumeration 68 = .ok (.getfield 216, 3) := by decide +kernel
theorem d_Mpg_enumeration_71 : decode b_Mpg_enumeration 71 = .ok (.iload_n 1, 1) := by decide +kernel
theorem d_Mpg_enumeration_72 : decode b_Mpg_enumeration 72 = .ok (.aload_n 0, 1) := by decide +kernel
theorem d_Mpg_enumeration_73 : decode b_Mpg_enumeration 73 = .ok (.aload_n 0, 1) := by decide +kernel
theorem d_Mpg_enumeration_74 : decode b_Mpg_enumeration 74 = .ok (.getfield 216, 3) := by decide +kernel
theorem d_Mpg_enumeration_77 : decode b_Mpg_enumeration 77 = .ok (.iload_n 1, 1) := by decide +kernel
theorem d_Mpg_enumeration_78 : decode b_Mpg_enumeration 78 = .ok (.iaload, 1) := by decide +kernel
theorem d_Mpg_enumeration_79 : decode b_Mpg_enumeration 79 = .ok (.iload_n 2, 1) := by decide +kernel
theorem d_Mpg_enumeration_80 : decode b_Mpg_enumeration 80 = .ok (.iload 4, 2) := by decide +kernel
theorem d_Mpg_enumeration_82 : decode b_Mpg_enumeration 82 = .ok (.invokevirtual 466, 3) := by decide +kernel
theorem d_Mpg_enumeration_85 : decode b_Mpg_enumeration 85 = .ok (.iastore, 1) := by decide +kernel
theorem d_Mpg_enumeration_86 : decode b_Mpg_enumeration 86 = .ok (.iload 4, 2) := by decide +kernel
theorem d_Mpg_enumeration_88 : decode b_Mpg_enumeration 88 = .ok (.istore_n 2, 1) := by decide +kernel
theorem d_Mpg_enumeration_89 : decode b_Mpg_enumeration 89 = .ok (.aload_n 0, 1) := by decide +kernel
theorem d_Mpg_enumeration_90 : decode b_Mpg_enumeration 90 = .ok (.ldc 99, 2) := by decide +kernel
theorem d_Mpg_enumeration_92 : decode b_Mpg_enumeration 92 = .ok (.invokevirtual 370, 3) := by decide +kernel
theorem d_Mpg_enumeration_95 : decode b_Mpg_enumeration 95 = .ok (.istore_n 3, 1) := by decide +kernel
theorem d_Mpg_enumeration_96 : decode b_Mpg_enumeration 96 = .ok (.goto (-65), 3) := by decide +kernel
theorem d_Mpg_enumeration_99 : decode b_Mpg_enumeration 99 = .ok (.aload_n 0, 1) := by decide +kernel
theorem d_Mpg_enumeration_100 : decode b_Mpg_enumeration 100 = .ok (.ldc 93, 2) := by decide +kernel
theorem d_Mpg_enumeration_102 : decode b_Mpg_enumeration 102 = .ok (.invokevirtual 439, 3) := by decide +kernel
theorem d_Mpg_enumeration_105 : decode b_Mpg_enumeration 105 = .ok (.aload_n 0, 1) := by decide +kernel
theorem d_Mpg_enumeration_106 : decode b_Mpg_enumeration 106 = .ok (.ldc 101, 2) := by decide +kernel
theorem d_Mpg_enumeration_108 : decode b_Mpg_enumeration 108 = .ok (.invokevirtual 386, 3) := by decide +kernel
theorem d_Mpg_enumeration_111 : decode b_Mpg_enumeration 111 = .ok (.aload_n 0, 1) := by decide +kernel
theorem d_Mpg_enumeration_112 : decode b_Mpg_enumeration 112 = .ok (.iload_n 1, 1) := by decide +kernel
theorem d_Mpg_enumeration_113 : decode b_Mpg_enumeration 113 = .ok (.invokevirtual 506, 3) := by decide +kernel
theorem d_Mpg_enumeration_116 : decode b_Mpg_enumeration 116 = .ok (.return_, 1) := by decide +kernel
theorem q_Mpg_enumeration : px_y y_Mpg_enumeration 0 := by unfold px_y; decide +kernel
set_option maxHeartbeats 4000000 in
set_option maxRecDepth 100000 in
theorem c_mp_enumeration (l : Launch) (D : va_G) (cs : Nat → ClassId) (h : Nat) (r : Nat → Nat) (g : Nat → Nat → Option Nat) (tf : Nat → Int32) (ta : Nat → Nat → Int32) (cf : Nat → Int32) (ca : Nat → Nat → Int32) (ef : Nat → Int32) (ea : Nat → Nat → Int32) (xf : Nat → Int32) (xa : Nat → Nat → Int32) (pf : Nat → Int32) (na : Nat → Nat → Int32) (ma : Nat → Nat → Int32) (wa : Nat → Nat → Int32)  (g0 : 0 ≤ (pf 11).toInt) (g1 : (pf 11).toInt < (tf 6).toInt) (g2 : (tf 6).toInt ≤ 2049) (g3 : (pf 12).toInt = 0) (g4 : 0 ≤ (pf 13).toInt) (g5 : (pf 13).toInt ≤ (pf 11).toInt + 10) (g6 : (pf 26).toInt = 0) (g7 : -1 ≤ (pf 25).toInt) (g8 : (pf 25).toInt < (pf 13).toInt) (g9 : (pf 11).toInt + 1 < (tf 6).toInt) (hlf : l.flags = pinnedFlags ++ [noTraceFlag]) (htk : TkI tf ta) (hfs : FsI (tf 6).toInt (pf 13).toInt na) (hzg : RzG ta (tf 6).toInt na ma (pf 24) (pf 25) 0 (pf 13).toInt (3 * bp ta (pf 11)) 200) : ThV l y_Mpg_enumeration b_Mpg_enumeration 5 D cs (8 * 61 + 24) (220 * 61 + 1120) [.ref h] [wdP cs h r g tf ta pf na ma wa cf ca ef ea xf xa] (oX (fun A U H => (oN A U H) ∧ (oP A g U H)) [wdP cs h r g tf ta pf na ma wa cf ca ef ea xf xa]) "java/lang/IllegalArgumentException" (fun ps => ∃ (pf' : Nat → Int32) (na' : Nat → Nat → Int32) (ma' : Nat → Nat → Int32) (wa' : Nat → Nat → Int32), (ps = [wdP cs h r g tf ta pf' na' ma' wa' cf ca ef ea xf xa]) ∧ ((pf 11).toInt + 1 ≤ (pf' 11).toInt) ∧ ((pf' 11).toInt < (tf 6).toInt) ∧ ((pf 13).toInt ≤ (pf' 13).toInt) ∧ ((pf' 13).toInt - (pf 13).toInt ≤ (pf' 11).toInt - (pf 11).toInt) ∧ (bp ta (pf 11) + 1 ≤ bp ta (pf' 11)) ∧ ((pf' 12).toInt = 0) ∧ ((pf' 26).toInt = 0) ∧ (-1 ≤ (pf' 25).toInt) ∧ ((pf' 25).toInt < (pf' 13).toInt) ∧ (RzG ta (tf 6).toInt na' ma' (pf' 24) (pf' 25) 0 (pf' 13).toInt (3 * bp ta (pf' 11)) 200) ∧ (FsI (tf 6).toInt (pf' 13).toInt na')) (fun ps => ∃ (pf' : Nat → Int32) (na' : Nat → Nat → Int32) (ma' : Nat → Nat → Int32) (wa' : Nat → Nat → Int32), ps = [wdP cs h r g tf ta pf' na' ma' wa' cf ca ef ea xf xa] ∧ 0 ≤ (pf' 11).toInt ∧ (pf' 11).toInt + 1 ≤ (tf 6).toInt) := by
  refine th_enter (by decide) (Nat.le_of_ble_eq_true rfl) ?_
  intro p e s m below meth c A ls hAe S hr hlk hnm hA hT hX hw hl hne hadm
  have hl : lv_has ls 5 [(0, .ref h)] := hl
  have cstm1 : ((-1) : Int32).toInt = (-1) := rfl
  have cst1 : (1 : Int32).toInt = 1 := rfl
  have cst43 : (43 : Int32).toInt = 43 := rfl
  have cst44 : (44 : Int32).toInt = 44 := rfl
  have hX : (fun A U H => (oN A U H) ∧ (oP A g U H)) A s s.heap := by rw [hAe]; exact hX
  obtain ⟨hN, hP⟩ := hX
  have hZ := hP.1
  have hF0 := hP.2.1
  obtain ⟨lv, hlv⟩ : ∃ y : Nat, y = 61 := ⟨_, rfl⟩
  have hfb : FrB 0 na ma na ma := FrB.rf
  have hfw : FrW (pf 26).toInt wa wa := FrW.rf
  have hb11 := tk_b htk (x := (pf 11)) (by first | with_reducible rfl | with_reducible assumption | omega) (by first | with_reducible rfl | with_reducible assumption | omega)
  have J31 : ∀ (n_31 : Nat) (pf_31 : Nat → Int32) (na_31 : Nat → Nat → Int32) (ma_31 : Nat → Nat → Int32) (wa_31 : Nat → Nat → Int32) (x31_1 x31_2 x31_3 : Int32) (H : Heap) (locs : List Loc) (ls : Array Slot), ((pf_31 12).toInt = 1) → ((pf_31 26).toInt = 0) → ((pf_31 24).toInt = (pf 24).toInt) → ((pf_31 25).toInt = (pf 25).toInt) → ((pf 11).toInt + 2 ≤ (pf_31 11).toInt) → ((pf_31 11).toInt < (tf 6).toInt) → (x31_1.toInt = (pf 13).toInt) → (x31_1.toInt < (pf_31 13).toInt) → ((pf_31 13).toInt - (pf 13).toInt ≤ (pf_31 11).toInt - (pf 11).toInt) → (bp ta (pf 11) + 2 ≤ bp ta (pf_31 11)) → (x31_2.toInt = -1 ∨ x31_1.toInt + 1 ≤ x31_2.toInt) → (x31_2.toInt < (pf_31 13).toInt) → (0 ≤ x31_3.toInt) → (x31_3.toInt ≤ 1) → (FrB 0 na ma na_31 ma_31) → (FrW (pf 26).toInt wa wa_31) → (NdF (tf 6).toInt na_31 x31_1 43 (pf 11)) → (ZfK ta (tf 6).toInt na_31 ma_31 (na_31 17) x31_1 x31_2 (x31_1.toInt + 1) (pf_31 13).toInt (3 * (bp ta (pf_31 11) - bp ta (pf 11)) - 3 * x31_3.toInt) 130) → (RzG ta (tf 6).toInt na_31 ma_31 (pf 24) (pf 25) 0 (pf 13).toInt (3 * bp ta (pf 11)) 200) → (FsI (tf 6).toInt (pf_31 13).toInt na_31) → 2 * ((tf 6).toInt - (pf_31 11).toInt) + x31_3.toInt < (n_31 : Int) → pw D A s.heap H locs [wdP cs h r g tf ta pf_31 na_31 ma_31 wa_31 cf ca ef ea xf xa] → lv_has ls 5 [(0, .ref h), (1, .int x31_1), (2, .int x31_2), (3, .int x31_3)] → W p l e { frames := (8 * 61 + 24), cells := 1, slots := 6, locals := (220 * 61 + 1120) } s m [.ref h].toArray below meth c H locs 0 0 (tx_MQ below (thQv D (va_A ([wdP cs h r g tf ta pf na ma wa cf ca ef ea xf xa] : List va_W).flatten s.heap.size) "java/lang/IllegalArgumentException" (fun ps => ∃ (pf' : Nat → Int32) (na' : Nat → Nat → Int32) (ma' : Nat → Nat → Int32) (wa' : Nat → Nat → Int32), (ps = [wdP cs h r g tf ta pf' na' ma' wa' cf ca ef ea xf xa]) ∧ ((pf 11).toInt + 1 ≤ (pf' 11).toInt) ∧ ((pf' 11).toInt < (tf 6).toInt) ∧ ((pf 13).toInt ≤ (pf' 13).toInt) ∧ ((pf' 13).toInt - (pf 13).toInt ≤ (pf' 11).toInt - (pf 11).toInt) ∧ (bp ta (pf 11) + 1 ≤ bp ta (pf' 11)) ∧ ((pf' 12).toInt = 0) ∧ ((pf' 26).toInt = 0) ∧ (-1 ≤ (pf' 25).toInt) ∧ ((pf' 25).toInt < (pf' 13).toInt) ∧ (RzG ta (tf 6).toInt na' ma' (pf' 24) (pf' 25) 0 (pf' 13).toInt (3 * bp ta (pf' 11)) 200) ∧ (FsI (tf 6).toInt (pf' 13).toInt na')) (fun ps => ∃ (pf' : Nat → Int32) (na' : Nat → Nat → Int32) (ma' : Nat → Nat → Int32) (wa' : Nat → Nat → Int32), ps = [wdP cs h r g tf ta pf' na' ma' wa' cf ca ef ea xf xa] ∧ 0 ≤ (pf' 11).toInt ∧ (pf' 11).toInt + 1 ≤ (tf 6).toInt) s.heap.size (tot s.heap)) [.ref h].toArray s 1 6 A) (F0 m 31 ls []) := by
    intro  n_31
    induction n_31 with
    | zero =>
      intro pf_31 na_31 ma_31 wa_31 x31_1 x31_2 x31_3 H locs ls k31_0 k31_1 k31_2 k31_3 k31_4 k31_5 k31_6 k31_7 k31_8 k31_9 k31_10 k31_11 k31_12 k31_13 k31_14 k31_15 k31_16 k31_17 k31_18 k31_19 hm hw hl
      have lx31_1 := Int32.le_toInt x31_1
      have ux31_1 := Int32.toInt_lt x31_1
      have lx31_2 := Int32.le_toInt x31_2
      have ux31_2 := Int32.toInt_lt x31_2
      have lx31_3 := Int32.le_toInt x31_3
      have ux31_3 := Int32.toInt_lt x31_3
      have hfb := k31_14
      have hfw := k31_15
      have hf_14_x31_1 := k31_16.2.1
      have hf_15_x31_1 := k31_16.2.2.1
      have hf_21_x31_1 := k31_16.2.2.2.2
      have hnt_x31_1 := k31_16.2.2.2.1
      obtain ⟨b1, hf_17_x31_1, hrw_x31_2⟩ := k31_17
      have hzg := k31_18
      have hfs := k31_19
      exact absurd hm (by first | with_reducible rfl | with_reducible assumption | omega)
    | succ n_31 ih31 =>
      intro pf_31 na_31 ma_31 wa_31 x31_1 x31_2 x31_3 H locs ls k31_0 k31_1 k31_2 k31_3 k31_4 k31_5 k31_6 k31_7 k31_8 k31_9 k31_10 k31_11 k31_12 k31_13 k31_14 k31_15 k31_16 k31_17 k31_18 k31_19 hm hw hl
      have lx31_1 := Int32.le_toInt x31_1
      have ux31_1 := Int32.toInt_lt x31_1
      have lx31_2 := Int32.le_toInt x31_2
      have ux31_2 := Int32.toInt_lt x31_2
      have lx31_3 := Int32.le_toInt x31_3
      have ux31_3 := Int32.toInt_lt x31_3
      have hfb := k31_14
      have hfw := k31_15
      have hf_14_x31_1 := k31_16.2.1
      have hf_15_x31_1 := k31_16.2.2.1
      have hf_21_x31_1 := k31_16.2.2.2.2
      have hnt_x31_1 := k31_16.2.2.2.1
      obtain ⟨b2, hf_17_x31_1, hrw_x31_2⟩ := k31_17
      have hzg := k31_18
      have hfs := k31_19
      refine lv_iload_n S.x S.b d_Mpg_enumeration_31 rfl (lv_at hl 3 rfl) ?_
      refine lv_if_eq (tgt := 99) S.x S.b d_Mpg_enumeration_32 (by decide) (fun c3 => ?_) (fun c3 => ?_)
      · have nc3 : x31_3.toInt = (0 : Int) := (i_eq (x := x31_3) (y := 0)).mp c3
        refine lv_aload_n S.x S.b d_Mpg_enumeration_99 rfl (lv_at hl 0 rfl) ?_
        obtain ⟨sk4, hRsk4, st5, sb6, hSsk4⟩ := oP_lit hP (k := 93) (tx := "}") (n := 1) (List.mem_of_getElem? (i := 38) rfl)
        refine va_ldcS S.x S.b S.own hRsk4 d_Mpg_enumeration_100 ?_
        first | refine th_callv (ps0 := [wdP cs h r g tf ta pf na ma wa cf ca ef ea xf xa]) (pr := []) (pcs := [wdP cs h r g tf ta pf_31 na_31 ma_31 wa_31 cf ca ef ea xf xa]) (As := [.ref sk4]) (rest := []) (c_mp_closes l D cs sk4 1 h r g tf ta na_31 ma_31 wa_31 cf ca ef ea xf xa pf_31   (show 0 ≤ (pf_31 11).toInt from (oz_f101e7799b k31_4 g0)) (show (pf_31 11).toInt < (tf 6).toInt from k31_5) (show (tf 6).toInt ≤ 2049 from g2) (show 1 ≤ (pf_31 12).toInt from (oz_c083232f4d k31_0)) (show (pf_31 12).toInt ≤ 60 from (oz_443389b263 k31_0)) (show 1 ≤ 100 from by first | decide | omega) hlf htk) S hT hw (oX_call (P := (fun A U H => (oN A U H) ∧ (oP A g U H) ∧ (StS A sk4 1 U H))) (pr := []) (oG_and oG_N (oG_and oG_P oG_Q)) hw hA ⟨hN, hP, ⟨_, _, hSsk4⟩⟩) (px_recv hT hw 0 0 rfl rfl rfl) m12_53 m12_50 m12_52 ms_9_14 m1_21 q_Mpg_closes ⟨show 8 + 1 ≤ (8 * 61 + 24) from by first | with_reducible rfl | with_reducible assumption | omega, show 8 + (2 + 11) + 280 ≤ (220 * 61 + 1120) from by first | with_reducible rfl | with_reducible assumption | omega⟩ hl.1 rfl (Nat.le_of_ble_eq_true rfl) d_Mpg_enumeration_102 ⟨Nat.le_of_ble_eq_true rfl, Nat.le_of_ble_eq_true rfl⟩ hne hlk hA hAe (fun o t h => Or.inr h) ?_ (fun p9 H locs hp9 hw => ?_) | refine th_callv (ps0 := [wdP cs h r g tf ta pf na ma wa cf ca ef ea xf xa]) (pr := []) (pcs := [wdP cs h r g tf ta pf_31 na_31 ma_31 wa_31 cf ca ef ea xf xa]) (As := [.ref sk4]) (rest := []) (c_mp_closes l D cs sk4 1 h r g tf ta na_31 ma_31 wa_31 cf ca ef ea xf xa pf_31   (show 0 ≤ (pf_31 11).toInt from by first | exact oz_f101e7799b k31_4 g0 | omega) (show (pf_31 11).toInt < (tf 6).toInt from by first | exact k31_5 | omega) (show (tf 6).toInt ≤ 2049 from by first | exact g2 | omega) (show 1 ≤ (pf_31 12).toInt from by first | exact oz_c083232f4d k31_0 | omega) (show (pf_31 12).toInt ≤ 60 from by first | exact oz_443389b263 k31_0 | omega) (show 1 ≤ 100 from by first | decide | omega) hlf htk) S hT hw (oX_call (P := (fun A U H => (oN A U H) ∧ (oP A g U H) ∧ (StS A sk4 1 U H))) (pr := []) (oG_and oG_N (oG_and oG_P oG_Q)) hw hA ⟨hN, hP, ⟨_, _, hSsk4⟩⟩) (px_recv hT hw 0 0 rfl rfl rfl) m12_53 m12_50 m12_52 ms_9_14 m1_21 q_Mpg_closes ⟨show 8 + 1 ≤ (8 * 61 + 24) from by first | with_reducible rfl | with_reducible assumption | omega, show 8 + (2 + 11) + 280 ≤ (220 * 61 + 1120) from by first | with_reducible rfl | with_reducible assumption | omega⟩ hl.1 rfl (Nat.le_of_ble_eq_true rfl) d_Mpg_enumeration_102 ⟨Nat.le_of_ble_eq_true rfl, Nat.le_of_ble_eq_true rfl⟩ hne hlk hA hAe (fun o t h => Or.inr h) ?_ (fun p9 H locs hp9 hw => ?_)
        · exact fun p1 H1 locs1 hp hw => by obtain ⟨pq1, pq2, pq3, pq4, rfl, hq1, hq2⟩ := hp; exact ⟨_, ⟨pq1, pq2, pq3, pq4, rfl, hq1, hq2⟩, hw⟩
        obtain ⟨pf8, rfl, e11, e12, e13, e14, e15, e16, e17, e18⟩ := hp9
        have e11 : (pf8 11).toInt = (pf_31 11).toInt + 1 := e11
        have e12 : (pf8 11).toInt < (tf 6).toInt := e12
        have e13 : bp ta (pf_31 11) + 1 ≤ bp ta (pf8 11) := e13
        have e14 : (pf8 12).toInt = (pf_31 12).toInt - 1 := e14
        have e15 : (pf8 13).toInt = (pf_31 13).toInt := e15
        have e16 : (pf8 24).toInt = (pf_31 24).toInt := e16
        have e17 : (pf8 25).toInt = (pf_31 25).toInt := e17
        have e18 : (pf8 26).toInt = (pf_31 26).toInt := e18
        refine lv_aload_n S.x S.b d_Mpg_enumeration_105 rfl (lv_at hl 0 rfl) ?_
        obtain ⟨sk19, hRsk19, st20, sb21, hSsk19⟩ := oP_lit hP (k := 101) (tx := ";") (n := 1) (List.mem_of_getElem? (i := 42) rfl)
        refine va_ldcS S.x S.b S.own hRsk19 d_Mpg_enumeration_106 ?_
        first | refine th_callv (ps0 := [wdP cs h r g tf ta pf na ma wa cf ca ef ea xf xa]) (pr := []) (pcs := [wdP cs h r g tf ta pf8 na_31 ma_31 wa_31 cf ca ef ea xf xa]) (As := [.ref sk19]) (rest := []) (c_mp_take l D cs sk19 1 h r g tf ta na_31 ma_31 wa_31 cf ca ef ea xf xa pf8   (show 0 ≤ (pf8 11).toInt from (oz_632d55c52e e11 k31_4 g0)) (show (pf8 11).toInt < (tf 6).toInt from e12) (show (tf 6).toInt ≤ 2049 from g2) (show 1 ≤ 100 from by first | decide | omega) hlf htk) S hT hw (oX_call (P := (fun A U H => (oN A U H) ∧ (oP A g U H) ∧ (StS A sk19 1 U H))) (pr := []) (oG_and oG_N (oG_and oG_P oG_Q)) hw hA ⟨hN, hP, ⟨_, _, hSsk19⟩⟩) (px_recv hT hw 0 0 rfl rfl rfl) m12_57 m12_54 m12_56 ms_9_15 m1_21 q_Mpg_take ⟨show 7 + 1 ≤ (8 * 61 + 24) from by first | with_reducible rfl | with_reducible assumption | omega, show 8 + (2 + 11) + 230 ≤ (220 * 61 + 1120) from by first | with_reducible rfl | with_reducible assumption | omega⟩ hl.1 rfl (Nat.le_of_ble_eq_true rfl) d_Mpg_enumeration_108 ⟨Nat.le_of_ble_eq_true rfl, Nat.le_of_ble_eq_true rfl⟩ hne hlk hA hAe (fun o t h => Or.inr h) ?_ (fun p24 H locs hp24 hw => ?_) | refine th_callv (ps0 := [wdP cs h r g tf ta pf na ma wa cf ca ef ea xf xa]) (pr := []) (pcs := [wdP cs h r g tf ta pf8 na_31 ma_31 wa_31 cf ca ef ea xf xa]) (As := [.ref sk19]) (rest := []) (c_mp_take l D cs sk19 1 h r g tf ta na_31 ma_31 wa_31 cf ca ef ea xf xa pf8   (show 0 ≤ (pf8 11).toInt from by first | exact oz_632d55c52e e11 k31_4 g0 | omega) (show (pf8 11).toInt < (tf 6).toInt from by first | exact e12 | omega) (show (tf 6).toInt ≤ 2049 from by first | exact g2 | omega) (show 1 ≤ 100 from by first | decide | omega) hlf htk) S hT hw (oX_call (P := (fun A U H => (oN A U H) ∧ (oP A g U H) ∧ (StS A sk19 1 U H))) (pr := []) (oG_and oG_N (oG_and oG_P oG_Q)) hw hA ⟨hN, hP, ⟨_, _, hSsk19⟩⟩) (px_recv hT hw 0 0 rfl rfl rfl) m12_57 m12_54 m12_56 ms_9_15 m1_21 q_Mpg_take ⟨show 7 + 1 ≤ (8 * 61 + 24) from by first | with_reducible rfl | with_reducible assumption | omega, show 8 + (2 + 11) + 230 ≤ (220 * 61 + 1120) from by first | with_reducible rfl | with_reducible assumption | omega⟩ hl.1 rfl (Nat.le_of_ble_eq_true rfl) d_Mpg_enumeration_108 ⟨Nat.le_of_ble_eq_true rfl, Nat.le_of_ble_eq_true rfl⟩ hne hlk hA hAe (fun o t h => Or.inr h) ?_ (fun p24 H locs hp24 hw => ?_)
        · exact fun p1 H1 locs1 hp hw => by obtain ⟨pq1, pq2, pq3, pq4, rfl, hq1, hq2⟩ := hp; exact ⟨_, ⟨pq1, pq2, pq3, pq4, rfl, hq1, hq2⟩, hw⟩
        obtain ⟨pf23, rfl, e26, e27, e28, e29, e30, e31, e32, e33⟩ := hp24
        have e26 : (pf23 11).toInt = (pf8 11).toInt + 1 := e26
        have e27 : (pf23 11).toInt < (tf 6).toInt := e27
        have e28 : bp ta (pf8 11) + 1 ≤ bp ta (pf23 11) := e28
        have e29 : (pf23 12).toInt = (pf8 12).toInt := e29
        have e30 : (pf23 13).toInt = (pf8 13).toInt := e30
        have e31 : (pf23 24).toInt = (pf8 24).toInt := e31
        have e32 : (pf23 25).toInt = (pf8 25).toInt := e32
        have e33 : (pf23 26).toInt = (pf8 26).toInt := e33
        refine lv_aload_n S.x S.b d_Mpg_enumeration_111 rfl (lv_at hl 0 rfl) ?_
        refine lv_iload_n S.x S.b d_Mpg_enumeration_112 rfl (lv_at hl 1 rfl) ?_
        first | refine px_callv (pr := []) (px_runV (As := [.int x31_1]) (rest := []) S (c_mp_add l D cs h r g tf ta ma_31 wa_31 cf ca ef ea xf xa pf23 na_31 x31_1  (show (pf23 25).toInt < 2100 from (oz_ec982f3f0b e32 e17 k31_3 g8 g5 k31_4 e11 g2 e26 e27)) htk _) hT (pr := []) (pcs := [wdP cs h r g tf ta pf23 na_31 ma_31 wa_31 cf ca ef ea xf xa]) hw px_X.tt (px_recv hT hw 0 0 rfl rfl rfl) m12_81 m12_78 m12_80 ms_10_5 m1_21 q_Mpg_add ⟨show 1 + 1 ≤ (8 * 61 + 24) from by first | with_reducible rfl | with_reducible assumption | omega, show 8 + (2 + 11) + 30 ≤ (220 * 61 + 1120) from by first | with_reducible rfl | with_reducible assumption | omega⟩ hl.1 rfl (Nat.le_of_ble_eq_true rfl) d_Mpg_enumeration_113 ⟨Nat.le_of_ble_eq_true rfl, Nat.le_of_ble_eq_true rfl⟩) hw hA (fun p38 H locs hp38 hw => ?_) | refine px_callv (pr := []) (px_runV (As := [.int x31_1]) (rest := []) S (c_mp_add l D cs h r g tf ta ma_31 wa_31 cf ca ef ea xf xa pf23 na_31 x31_1  (show (pf23 25).toInt < 2100 from by first | exact oz_ec982f3f0b e32 e17 k31_3 g8 g5 k31_4 e11 g2 e26 e27 | omega) htk _) hT (pr := []) (pcs := [wdP cs h r g tf ta pf23 na_31 ma_31 wa_31 cf ca ef ea xf xa]) hw px_X.tt (px_recv hT hw 0 0 rfl rfl rfl) m12_81 m12_78 m12_80 ms_10_5 m1_21 q_Mpg_add ⟨show 1 + 1 ≤ (8 * 61 + 24) from by first | with_reducible rfl | with_reducible assumption | omega, show 8 + (2 + 11) + 30 ≤ (220 * 61 + 1120) from by first | with_reducible rfl | with_reducible assumption | omega⟩ hl.1 rfl (Nat.le_of_ble_eq_true rfl) d_Mpg_enumeration_113 ⟨Nat.le_of_ble_eq_true rfl, Nat.le_of_ble_eq_true rfl⟩) hw hA (fun p38 H locs hp38 hw => ?_)
        obtain ⟨pf36, na37, rfl, e40, e41, e42, e43, e44, e45⟩ := hp38
        have e40 : (pf36 11).toInt = (pf23 11).toInt := e40
        have e41 : (pf36 12).toInt = (pf23 12).toInt := e41
        have e42 : (pf36 13).toInt = (pf23 13).toInt := e42
        have e43 : (pf36 26).toInt = (pf23 26).toInt := e43
        have e44 : (pf36 25).toInt = x31_1.toInt := e44
        have e45 : Hg na_31 na37 (pf23 24) (pf23 25) x31_1 (pf36 24) := e45
        have hvg := vg_enum (hi := (pf23 13).toInt) (D := 200) (x := x31_2) ⟨by first | with_reducible rfl | with_reducible assumption | omega, hf_14_x31_1, hf_15_x31_1, ⟨by first | with_reducible rfl | with_reducible assumption | omega, by first | with_reducible rfl | with_reducible assumption | omega⟩, hf_21_x31_1⟩ (by first | with_reducible rfl | with_reducible assumption | omega) (by first | with_reducible rfl | with_reducible assumption | omega) (by rw [hf_17_x31_1]; exact RzV.le hrw_x31_2 (by first | with_reducible rfl | with_reducible assumption | omega) (by first | with_reducible rfl | with_reducible assumption | omega) (Int.le_refl _) (by first | with_reducible rfl | with_reducible assumption | omega))
        have hzg := Hg.row e45 fg_ok (rz_eq hzg (by first | with_reducible rfl | with_reducible assumption | omega) (by first | with_reducible rfl | with_reducible assumption | omega)) (VlV.le hvg (by first | with_reducible rfl | with_reducible assumption | omega) (Int.le_refl _) (Int.le_refl _) (by first | with_reducible rfl | with_reducible assumption | omega)) (by first | with_reducible rfl | with_reducible assumption | omega) (by first | with_reducible rfl | with_reducible assumption | omega)
        have hfs := FsI.hg hfs e45
        obtain ⟨qb461, qb462, qb463, qb464⟩ := tk_eq (ta := ta) (x := (pf36 11)) (y := (pf23 11)) (by first | with_reducible rfl | with_reducible assumption | omega)
        first | exact th_vret S hr hlk hAe hw (⟨pf36, na37, ma_31, wa_31, rfl, (show (pf 11).toInt + 1 ≤ (pf36 11).toInt from (oz_e70fca6503 k31_4 e40 e11 e26)), (show (pf36 11).toInt < (tf 6).toInt from (oz_5d2fbac15b e27 e40)), (show (pf 13).toInt ≤ (pf36 13).toInt from (oz_64d5401b2c k31_6 e42 k31_7 e15 e30)), (show (pf36 13).toInt - (pf 13).toInt ≤ (pf36 11).toInt - (pf 11).toInt from (oz_34b08d2b77 k31_8 e40 e42 e11 e15 e26 e30)), (show bp ta (pf 11) + 1 ≤ bp ta (pf36 11) from (oz_5d911a48a2 k31_9 qb461 e13 e28)), (show (pf36 12).toInt = 0 from (oz_f68b379cbf e41 e29 e14 k31_0)), (show (pf36 26).toInt = 0 from (oz_5e358525a3 e43 e33 e18 k31_1)), (show -1 ≤ (pf36 25).toInt from (oz_b23efdd26a e44 k31_6 g4)), (show (pf36 25).toInt < (pf36 13).toInt from (oz_0a92d61c1d e42 e44 k31_7 e30 e15)), (show RzG ta (tf 6).toInt na37 ma_31 (pf36 24) (pf36 25) 0 (pf36 13).toInt (3 * bp ta (pf36 11)) 200 from (RzV.le (rz_eq (Or.inr hzg) (by first | with_reducible rfl | with_reducible assumption | omega) (by first | with_reducible rfl | with_reducible assumption | omega)) (by first | with_reducible rfl | with_reducible assumption | omega) (by first | with_reducible rfl | with_reducible assumption | omega) (by first | with_reducible rfl | with_reducible assumption | omega) (by first | with_reducible rfl | with_reducible assumption | omega))), (show FsI (tf 6).toInt (pf36 13).toInt na37 from (FsI.le hfs (by first | with_reducible rfl | with_reducible assumption | omega)))⟩) d_Mpg_enumeration_116 | exact th_vret S hr hlk hAe hw (⟨pf36, na37, ma_31, wa_31, rfl, (show (pf 11).toInt + 1 ≤ (pf36 11).toInt from by first | exact oz_e70fca6503 k31_4 e40 e11 e26 | omega), (show (pf36 11).toInt < (tf 6).toInt from by first | exact oz_5d2fbac15b e27 e40 | omega), (show (pf 13).toInt ≤ (pf36 13).toInt from by first | exact oz_64d5401b2c k31_6 e42 k31_7 e15 e30 | omega), (show (pf36 13).toInt - (pf 13).toInt ≤ (pf36 11).toInt - (pf 11).toInt from by first | exact oz_34b08d2b77 k31_8 e40 e42 e11 e15 e26 e30 | omega), (show bp ta (pf 11) + 1 ≤ bp ta (pf36 11) from by first | exact oz_5d911a48a2 k31_9 qb461 e13 e28 | omega), (show (pf36 12).toInt = 0 from by first | exact oz_f68b379cbf e41 e29 e14 k31_0 | omega), (show (pf36 26).toInt = 0 from by first | exact oz_5e358525a3 e43 e33 e18 k31_1 | omega), (show -1 ≤ (pf36 25).toInt from by first | exact oz_b23efdd26a e44 k31_6 g4 | omega), (show (pf36 25).toInt < (pf36 13).toInt from by first | exact oz_0a92d61c1d e42 e44 k31_7 e30 e15 | omega), (show RzG ta (tf 6).toInt na37 ma_31 (pf36 24) (pf36 25) 0 (pf36 13).toInt (3 * bp ta (pf36 11)) 200 from (RzV.le (rz_eq (Or.inr hzg) (by first | with_reducible rfl | with_reducible assumption | omega) (by first | with_reducible rfl | with_reducible assumption | omega)) (by first | with_reducible rfl | with_reducible assumption | omega) (by first | with_reducible rfl | with_reducible assumption | omega) (by first | with_reducible rfl | with_reducible assumption | omega) (by first | with_reducible rfl | with_reducible assumption | omega))), (show FsI (tf 6).toInt (pf36 13).toInt na37 from (FsI.le hfs (by first | with_reducible rfl | with_reducible assumption | omega)))⟩) d_Mpg_enumeration_116
      · have nc3 : ¬ x31_3.toInt = (0 : Int) := mt (i_eq (x := x31_3) (y := 0)).mpr c3
        refine lv_aload_n S.x S.b d_Mpg_enumeration_35 rfl (lv_at hl 0 rfl) ?_
        refine lv_bipush (v := 44) S.x S.b d_Mpg_enumeration_36 (by decide) ?_
        refine lv_aload_n S.x S.b d_Mpg_enumeration_38 rfl (lv_at hl 0 rfl) ?_
        first | refine th_calli (ps0 := [wdP cs h r g tf ta pf na ma wa cf ca ef ea xf xa]) (pr := []) (pcs := [wdP cs h r g tf ta pf_31 na_31 ma_31 wa_31 cf ca ef ea xf xa]) (As := []) (rest := [.int 44, .ref h]) (c_mp_name l D cs h r g tf ta na_31 ma_31 wa_31 cf ca ef ea xf xa pf_31   (show 0 ≤ (pf_31 11).toInt from (oz_f101e7799b k31_4 g0)) (show (pf_31 11).toInt < (tf 6).toInt from k31_5) (show (tf 6).toInt ≤ 2049 from g2) hlf htk) S hT hw (oX_call (P := (fun A U H => (oN A U H) ∧ (oP A g U H))) (pr := []) (oG_and oG_N oG_P) hw hA ⟨hN, hP⟩) (px_recv hT hw 0 0 rfl rfl rfl) m12_2 m11_239 m12_1 ms_9_2 m1_21 q_Mpg_name ⟨show 7 + 1 ≤ (8 * 61 + 24) from by first | with_reducible rfl | with_reducible assumption | omega, show 8 + (1 + 11) + 150 ≤ (220 * 61 + 1120) from by first | with_reducible rfl | with_reducible assumption | omega⟩ hl.1 rfl (Nat.le_of_ble_eq_true rfl) d_Mpg_enumeration_39 ⟨Nat.le_of_ble_eq_true rfl, Nat.le_of_ble_eq_true rfl⟩ hne hlk hA hAe (fun o t h => Or.inr h) ?_ (fun v50 p49 H locs hp49 hw => ?_) | refine th_calli (ps0 := [wdP cs h r g tf ta pf na ma wa cf ca ef ea xf xa]) (pr := []) (pcs := [wdP cs h r g tf ta pf_31 na_31 ma_31 wa_31 cf ca ef ea xf xa]) (As := []) (rest := [.int 44, .ref h]) (c_mp_name l D cs h r g tf ta na_31 ma_31 wa_31 cf ca ef ea xf xa pf_31   (show 0 ≤ (pf_31 11).toInt from by first | exact oz_f101e7799b k31_4 g0 | omega) (show (pf_31 11).toInt < (tf 6).toInt from by first | exact k31_5 | omega) (show (tf 6).toInt ≤ 2049 from by first | exact g2 | omega) hlf htk) S hT hw (oX_call (P := (fun A U H => (oN A U H) ∧ (oP A g U H))) (pr := []) (oG_and oG_N oG_P) hw hA ⟨hN, hP⟩) (px_recv hT hw 0 0 rfl rfl rfl) m12_2 m11_239 m12_1 ms_9_2 m1_21 q_Mpg_name ⟨show 7 + 1 ≤ (8 * 61 + 24) from by first | with_reducible rfl | with_reducible assumption | omega, show 8 + (1 + 11) + 150 ≤ (220 * 61 + 1120) from by first | with_reducible rfl | with_reducible assumption | omega⟩ hl.1 rfl (Nat.le_of_ble_eq_true rfl) d_Mpg_enumeration_39 ⟨Nat.le_of_ble_eq_true rfl, Nat.le_of_ble_eq_true rfl⟩ hne hlk hA hAe (fun o t h => Or.inr h) ?_ (fun v50 p49 H locs hp49 hw => ?_)
        · exact fun p1 H1 locs1 hp hw => by obtain ⟨pq1, pq2, pq3, pq4, rfl, hq1, hq2⟩ := hp; exact ⟨_, ⟨pq1, pq2, pq3, pq4, rfl, hq1, hq2⟩, hw⟩
        obtain ⟨pf48, rfl, e51, e52, e53, e54, e55, e56, e57, e58, e59, e60⟩ := hp49
        have e51 : v50.toInt = (pf_31 11).toInt := e51
        have e52 : SoIs ta v50 1 := e52
        have e53 : (pf48 11).toInt = (pf_31 11).toInt + 1 := e53
        have e54 : (pf48 11).toInt < (tf 6).toInt := e54
        have e55 : bp ta (pf_31 11) + 1 ≤ bp ta (pf48 11) := e55
        have e56 : (pf48 12).toInt = (pf_31 12).toInt := e56
        have e57 : (pf48 13).toInt = (pf_31 13).toInt := e57
        have e58 : (pf48 24).toInt = (pf_31 24).toInt := e58
        have e59 : (pf48 25).toInt = (pf_31 25).toInt := e59
        have e60 : (pf48 26).toInt = (pf_31 26).toInt := e60
        have lv50 := Int32.le_toInt v50
        have uv50 := Int32.toInt_lt v50
        first | refine px_calli (pr := []) (px_runV (As := [.int 44, .int v50]) (rest := []) S (c_mp_make l D cs h r g tf ta wa_31 cf ca ef ea xf xa pf48 na_31 ma_31 44 v50  (show 0 ≤ (pf48 13).toInt from (oz_75207bdd89 e57 k31_7 g4 k31_6)) (show (pf48 13).toInt < 2100 from (oz_7b8a9e084a e57 k31_8 g5 e53 g2 e54)) _) hT (pr := []) (pcs := [wdP cs h r g tf ta pf48 na_31 ma_31 wa_31 cf ca ef ea xf xa]) hw px_X.tt (px_recv hT hw 0 0 rfl rfl rfl) m11_209 m11_206 m11_208 ms_8_12 m1_21 q_Mpg_make ⟨show 0 + 1 ≤ (8 * 61 + 24) from by first | with_reducible rfl | with_reducible assumption | omega, show 8 + (3 + 11) + 0 ≤ (220 * 61 + 1120) from by first | with_reducible rfl | with_reducible assumption | omega⟩ hl.1 rfl (Nat.le_of_ble_eq_true rfl) d_Mpg_enumeration_42 ⟨Nat.le_of_ble_eq_true rfl, Nat.le_of_ble_eq_true rfl⟩) hw hA (fun v68 p67 H locs hp67 hw => ?_) | refine px_calli (pr := []) (px_runV (As := [.int 44, .int v50]) (rest := []) S (c_mp_make l D cs h r g tf ta wa_31 cf ca ef ea xf xa pf48 na_31 ma_31 44 v50  (show 0 ≤ (pf48 13).toInt from by first | exact oz_75207bdd89 e57 k31_7 g4 k31_6 | omega) (show (pf48 13).toInt < 2100 from by first | exact oz_7b8a9e084a e57 k31_8 g5 e53 g2 e54 | omega) _) hT (pr := []) (pcs := [wdP cs h r g tf ta pf48 na_31 ma_31 wa_31 cf ca ef ea xf xa]) hw px_X.tt (px_recv hT hw 0 0 rfl rfl rfl) m11_209 m11_206 m11_208 ms_8_12 m1_21 q_Mpg_make ⟨show 0 + 1 ≤ (8 * 61 + 24) from by first | with_reducible rfl | with_reducible assumption | omega, show 8 + (3 + 11) + 0 ≤ (220 * 61 + 1120) from by first | with_reducible rfl | with_reducible assumption | omega⟩ hl.1 rfl (Nat.le_of_ble_eq_true rfl) d_Mpg_enumeration_42 ⟨Nat.le_of_ble_eq_true rfl, Nat.le_of_ble_eq_true rfl⟩) hw hA (fun v68 p67 H locs hp67 hw => ?_)
        obtain ⟨pf64, na65, ma66, rfl, e69, e70, e71, e72, e73, e74, e75, e76⟩ := hp67
        have e69 : v68.toInt = (pf48 13).toInt := e69
        have e70 : (pf64 13).toInt = (pf48 13).toInt + 1 := e70
        have e71 : (pf64 11).toInt = (pf48 11).toInt := e71
        have e72 : (pf64 12).toInt = (pf48 12).toInt := e72
        have e73 : (pf64 24).toInt = (pf48 24).toInt := e73
        have e74 : (pf64 25).toInt = (pf48 25).toInt := e74
        have e75 : (pf64 26).toInt = (pf48 26).toInt := e75
        have e76 : MkN na_31 ma_31 na65 ma66 v68 (44 : Int32) v50 := e76
        obtain ⟨qb771, qb772, qb773, qb774⟩ := tk_eq (ta := ta) (x := (pf64 11)) (y := (pf48 11)) (by first | with_reducible rfl | with_reducible assumption | omega)
        have hmk_v68 := e76
        have hfm_v68 := MkN.frb (b := v68.toInt) hmk_v68 (by first | with_reducible rfl | with_reducible assumption | omega) (by first | with_reducible rfl | with_reducible assumption | omega)
        have hf_14_x31_1 := (fb_n hfm_v68 (by first | with_reducible rfl | with_reducible assumption | omega) (by first | with_reducible rfl | with_reducible assumption | omega)).trans hf_14_x31_1
        have hf_15_x31_1 := (fb_n hfm_v68 (by first | with_reducible rfl | with_reducible assumption | omega) (by first | with_reducible rfl | with_reducible assumption | omega)).trans hf_15_x31_1
        have hf_21_x31_1 := (fb_n hfm_v68 (by first | with_reducible rfl | with_reducible assumption | omega) (by first | with_reducible rfl | with_reducible assumption | omega)).trans hf_21_x31_1
        have hf_17_x31_1 := (fb_n hfm_v68 (by first | with_reducible rfl | with_reducible assumption | omega) (by first | with_reducible rfl | with_reducible assumption | omega)).trans hf_17_x31_1
        have hrw_x31_2 := hrw_x31_2.ag fk_ok (FrB.ag hfm_v68 (by first | with_reducible rfl | with_reducible assumption | omega))
        have hzg := hzg.ag fg_ok (FrB.ag hfm_v68 (by first | with_reducible rfl | with_reducible assumption | omega))
        have hfs := FsI.mk hfs hmk_v68 (by first | with_reducible rfl | with_reducible assumption | omega) (by first | with_reducible rfl | with_reducible assumption | omega) (by first | with_reducible rfl | with_reducible assumption | omega) (by first | with_reducible rfl | with_reducible assumption | omega)
        have hfb := hfb.tr hfm_v68 (by first | with_reducible rfl | with_reducible assumption | omega)
        have hf_14_v68 := hmk_v68.2.1 (by decide) (by decide)
        have hf_15_v68 := hmk_v68.2.2.1
        have hf_17_v68 := hmk_v68.2.2.2.2.1
        have hf_21_v68 := hmk_v68.2.2.2.2.2.2.2.2.1
        clear hmk_v68 hfm_v68
        have lv68 := Int32.le_toInt v68
        have uv68 := Int32.toInt_lt v68
        refine lv_istore (lv' := [(4, .int v68), (0, .ref h), (1, .int x31_1), (2, .int x31_2), (3, .int x31_3)]) S.x S.b d_Mpg_enumeration_45 hl (by decide) rfl (fun ls hl => ?_)
        refine lv_aload_n S.x S.b d_Mpg_enumeration_47 rfl (lv_at hl 1 rfl) ?_
        obtain ⟨sk78, hRsk78, st79, sb80, hSsk78⟩ := oP_lit hP (k := 107) (tx := "=") (n := 1) (List.mem_of_getElem? (i := 45) rfl)
        refine va_ldcS S.x S.b S.own hRsk78 d_Mpg_enumeration_48 ?_
        first | refine px_calli (pr := []) (px_runV (As := [.ref sk78]) (rest := []) S (c_mp_takes l D cs sk78 1 h r g tf ta na65 ma66 wa_31 cf ca ef ea xf xa pf64   (show 0 ≤ (pf64 11).toInt from (oz_951c320703 e71 e53 k31_4 g0)) (show (pf64 11).toInt < (tf 6).toInt from (oz_5d2fbac15b e54 e71)) (show (tf 6).toInt ≤ 2049 from g2) (show 1 ≤ 100 from by first | decide | omega) htk _) hT (pr := []) (pcs := [wdP cs h r g tf ta pf64 na65 ma66 wa_31 cf ca ef ea xf xa]) hw (oX_call (P := (fun A U H => (oP A g U H) ∧ (StS A sk78 1 U H))) (pr := []) (oG_and oG_P oG_Q) hw hA ⟨hP, ⟨_, _, hSsk78⟩⟩) (px_recv hT hw 0 0 rfl rfl rfl) m12_6 m12_3 m12_5 ms_9_3 m1_21 q_Mpg_takes ⟨show 4 + 1 ≤ (8 * 61 + 24) from by first | with_reducible rfl | with_reducible assumption | omega, show 8 + (3 + 11) + 160 ≤ (220 * 61 + 1120) from by first | with_reducible rfl | with_reducible assumption | omega⟩ hl.1 rfl (Nat.le_of_ble_eq_true rfl) d_Mpg_enumeration_50 ⟨Nat.le_of_ble_eq_true rfl, Nat.le_of_ble_eq_true rfl⟩) hw hA (fun v84 p83 H locs hp83 hw => ?_) | refine px_calli (pr := []) (px_runV (As := [.ref sk78]) (rest := []) S (c_mp_takes l D cs sk78 1 h r g tf ta na65 ma66 wa_31 cf ca ef ea xf xa pf64   (show 0 ≤ (pf64 11).toInt from by first | exact oz_951c320703 e71 e53 k31_4 g0 | omega) (show (pf64 11).toInt < (tf 6).toInt from by first | exact oz_5d2fbac15b e54 e71 | omega) (show (tf 6).toInt ≤ 2049 from by first | exact g2 | omega) (show 1 ≤ 100 from by first | decide | omega) htk _) hT (pr := []) (pcs := [wdP cs h r g tf ta pf64 na65 ma66 wa_31 cf ca ef ea xf xa]) hw (oX_call (P := (fun A U H => (oP A g U H) ∧ (StS A sk78 1 U H))) (pr := []) (oG_and oG_P oG_Q) hw hA ⟨hP, ⟨_, _, hSsk78⟩⟩) (px_recv hT hw 0 0 rfl rfl rfl) m12_6 m12_3 m12_5 ms_9_3 m1_21 q_Mpg_takes ⟨show 4 + 1 ≤ (8 * 61 + 24) from by first | with_reducible rfl | with_reducible assumption | omega, show 8 + (3 + 11) + 160 ≤ (220 * 61 + 1120) from by first | with_reducible rfl | with_reducible assumption | omega⟩ hl.1 rfl (Nat.le_of_ble_eq_true rfl) d_Mpg_enumeration_50 ⟨Nat.le_of_ble_eq_true rfl, Nat.le_of_ble_eq_true rfl⟩) hw hA (fun v84 p83 H locs hp83 hw => ?_)
        obtain ⟨pf82, rfl, e85, e86, e87, e88, e89, e90, e91, e92, e93⟩ := hp83
        have e85 := z_rng e85
        have e86 : (pf82 11).toInt = (pf64 11).toInt + v84.toInt := e86
        have e87 : (pf82 11).toInt < (tf 6).toInt := e87
        have e88 : bp ta (pf64 11) + v84.toInt ≤ bp ta (pf82 11) := e88
        have e89 : (pf82 12).toInt = (pf64 12).toInt := e89
        have e90 : (pf82 13).toInt = (pf64 13).toInt := e90
        have e91 : (pf82 24).toInt = (pf64 24).toInt := e91
        have e92 : (pf82 25).toInt = (pf64 25).toInt := e92
        have e93 : (pf82 26).toInt = (pf64 26).toInt := e93
        have lv84 := Int32.le_toInt v84
        have uv84 := Int32.toInt_lt v84
        refine lv_if_eq (tgt := 67) S.x S.b d_Mpg_enumeration_53 (by decide) (fun c94 => ?_) (fun c94 => ?_)
        · have nc94 : v84.toInt = (0 : Int) := (i_eq (x := v84) (y := 0)).mp c94
          refine lv_aload_n S.x S.b d_Mpg_enumeration_67 rfl (lv_at hl 1 rfl) ?_
          have hv_v68 := vl_con (c := (tf 6).toInt) (ma := ma66) (hi := (pf82 13).toInt) (D := 130) ⟨by first | with_reducible rfl | with_reducible assumption | omega, hf_14_v68, hf_15_v68, ⟨by first | with_reducible rfl | with_reducible assumption | omega, by first | with_reducible rfl | with_reducible assumption | omega⟩, hf_21_v68⟩ (show SoIs ta v50 1 by assumption) (by first | with_reducible rfl | with_reducible assumption | omega) hf_17_v68 (by first | with_reducible rfl | with_reducible assumption | omega) (lo := v68.toInt + 1) (oz_n (W := 0) (by decide) (by first | with_reducible rfl | with_reducible assumption | omega)) (by first | with_reducible rfl | with_reducible assumption | omega); have hn_hv_v68 := hv_v68.num fk_ok
          refine px_get S k_Mpg hT hw 0 0 17 (v := .ref (r 17)) rfl rfl rfl (by decide) m10_1 d_Mpg_enumeration_68 ?_
          refine lv_iload_n S.x S.b d_Mpg_enumeration_71 rfl (lv_at hl 2 rfl) ?_
          refine lv_aload_n S.x S.b d_Mpg_enumeration_72 rfl (lv_at hl 1 rfl) ?_
          refine lv_aload_n S.x S.b d_Mpg_enumeration_73 rfl (lv_at hl 1 rfl) ?_
          refine px_get S k_Mpg hT hw 0 0 17 (v := .ref (r 17)) rfl rfl rfl (by decide) m10_1 d_Mpg_enumeration_74 ?_
          refine lv_iload_n S.x S.b d_Mpg_enumeration_77 rfl (lv_at hl 2 rfl) ?_
          refine px_iald S hT hw 0 13 (n := 2100) (f := (na65 17)) rfl gp_17 (x := x31_1) (vp_in_iff.mpr (by first | exact oz_779f263daf k31_6 g4 g5 k31_4 e53 g2 e54 | (constructor <;> omega))) d_Mpg_enumeration_78 ?_
          refine lv_topi (fun z95 ez95 => ?_)
          have lz95 := Int32.le_toInt z95
          have uz95 := Int32.toInt_lt z95
          have hsz95 : b2 = z95 := (ez95.trans hf_17_x31_1).symm; subst hsz95
          refine lv_iload_n S.x S.b d_Mpg_enumeration_79 rfl (lv_at hl 3 rfl) ?_
          refine lv_iload S.x S.b d_Mpg_enumeration_80 (lv_at hl 0 rfl) ?_
          first | refine px_calli (pr := []) (px_runV (As := [.int b2, .int x31_2, .int v68]) (rest := [.int x31_1, .ref (r 17)]) S (c_mp_hang l D cs h r g tf ta pf82 ma66 wa_31 cf ca ef ea xf xa na65 b2 x31_2 v68  (show x31_2.toInt < 2100 from (oz_fa92019150 k31_11 k31_8 g5 e53 g2 e54)) htk _) hT (pr := []) (pcs := [wdP cs h r g tf ta pf82 na65 ma66 wa_31 cf ca ef ea xf xa]) hw px_X.tt (px_recv hT hw 0 0 rfl rfl rfl) m12_77 m12_74 m12_76 ms_10_4 m1_21 q_Mpg_hang ⟨show 0 + 1 ≤ (8 * 61 + 24) from by first | with_reducible rfl | with_reducible assumption | omega, show 8 + (4 + 11) + 0 ≤ (220 * 61 + 1120) from by first | with_reducible rfl | with_reducible assumption | omega⟩ hl.1 rfl (Nat.le_of_ble_eq_true rfl) d_Mpg_enumeration_82 ⟨Nat.le_of_ble_eq_true rfl, Nat.le_of_ble_eq_true rfl⟩) hw hA (fun v99 p98 H locs hp98 hw => ?_) | refine px_calli (pr := []) (px_runV (As := [.int b2, .int x31_2, .int v68]) (rest := [.int x31_1, .ref (r 17)]) S (c_mp_hang l D cs h r g tf ta pf82 ma66 wa_31 cf ca ef ea xf xa na65 b2 x31_2 v68  (show x31_2.toInt < 2100 from by first | exact oz_fa92019150 k31_11 k31_8 g5 e53 g2 e54 | omega) htk _) hT (pr := []) (pcs := [wdP cs h r g tf ta pf82 na65 ma66 wa_31 cf ca ef ea xf xa]) hw px_X.tt (px_recv hT hw 0 0 rfl rfl rfl) m12_77 m12_74 m12_76 ms_10_4 m1_21 q_Mpg_hang ⟨show 0 + 1 ≤ (8 * 61 + 24) from by first | with_reducible rfl | with_reducible assumption | omega, show 8 + (4 + 11) + 0 ≤ (220 * 61 + 1120) from by first | with_reducible rfl | with_reducible assumption | omega⟩ hl.1 rfl (Nat.le_of_ble_eq_true rfl) d_Mpg_enumeration_82 ⟨Nat.le_of_ble_eq_true rfl, Nat.le_of_ble_eq_true rfl⟩) hw hA (fun v99 p98 H locs hp98 hw => ?_)
          obtain ⟨na97, rfl, e100⟩ := hp98
          have e100 : Hg na65 na97 b2 x31_2 v68 v99 := e100
          have hf_14_x31_1 := (Hg.fld e100 (by first | with_reducible rfl | with_reducible assumption | omega) (by first | with_reducible rfl | with_reducible assumption | omega)).trans hf_14_x31_1
          have hf_15_x31_1 := (Hg.fld e100 (by first | with_reducible rfl | with_reducible assumption | omega) (by first | with_reducible rfl | with_reducible assumption | omega)).trans hf_15_x31_1
          have hf_21_x31_1 := (Hg.fld e100 (by first | with_reducible rfl | with_reducible assumption | omega) (by first | with_reducible rfl | with_reducible assumption | omega)).trans hf_21_x31_1
          have hf_17_x31_1 := (Hg.fld e100 (by first | with_reducible rfl | with_reducible assumption | omega) (by first | with_reducible rfl | with_reducible assumption | omega)).trans hf_17_x31_1
          have hrw_v68 := Hg.row e100 fk_ok hrw_x31_2 (VlV.le hv_v68 (by first | with_reducible rfl | with_reducible assumption | omega) (Int.le_refl _) (Int.le_refl _) (by first | with_reducible rfl | with_reducible assumption | omega)) (by first | with_reducible rfl | with_reducible assumption | omega) (by first | with_reducible rfl | with_reducible assumption | omega)
          have hn_hrw_v68 := hrw_v68.num
          have hfb := Hg.fb e100 hfb (by first | with_reducible rfl | with_reducible assumption | omega)
          have hfs := FsI.hg hfs e100
          have hzg := hzg.ag fg_ok (Hg.ag e100 (by first | with_reducible rfl | with_reducible assumption | omega))
          have lv99 := Int32.le_toInt v99
          have uv99 := Int32.toInt_lt v99
          refine px_iast S hT hw 0 13 (n := 2100) (f := (na97 17)) (x := x31_1) (y := v99) rfl gp_17 (vp_in_iff.mpr (by constructor <;> omega)) d_Mpg_enumeration_85 (w' := wdP cs h r g tf ta pf82 (va_up na97 17 (upd (na97 17) x31_1.toNatClampNeg v99)) ma66 wa_31 cf ca ef ea xf xa) (ps' := [wdP cs h r g tf ta pf82 (va_up na97 17 (upd (na97 17) x31_1.toNatClampNeg v99)) ma66 wa_31 cf ca ef ea xf xa]) sp_17 rfl (fun H locs hw => ?_)
          obtain ⟨na101, hu_na101⟩ : ∃ y : Nat → Nat → Int32, y = va_up na97 17 (upd (na97 17) x31_1.toNatClampNeg v99) := ⟨_, rfl⟩
          have hw : pw D A s.heap _ _ [wdP cs h r g tf ta pf82 na101 ma66 wa_31 cf ca ef ea xf xa] := (by rw [hu_na101]; exact hw)
          have hrw_v68 := hrw_v68.ag fk_ok (ag_n hu_na101 (by first | with_reducible rfl | with_reducible assumption | omega) (by first | with_reducible rfl | with_reducible assumption | omega))
          have hf_14_x31_1 := (fl_n hu_na101 (by decide)).trans hf_14_x31_1
          have hf_15_x31_1 := (fl_n hu_na101 (by decide)).trans hf_15_x31_1
          have hf_21_x31_1 := (fl_n hu_na101 (by decide)).trans hf_21_x31_1
          have hf_17_x31_1 : na101 17 x31_1.toNatClampNeg = v99 := (by rw [hu_na101, va_up_s, pk_us])
          have hfs : FsI _ _ na101 := (by rw [hu_na101]; exact FsI.un hfs (by decide))
          have hfb : FrB 0 na ma na101 ma66 := (by rw [hu_na101]; exact FrB.un hfb (by first | with_reducible rfl | with_reducible assumption | omega) (by first | with_reducible rfl | with_reducible assumption | omega))
          have hzg := hzg.ag fg_ok (ag_n hu_na101 (by first | with_reducible rfl | with_reducible assumption | omega) (by first | with_reducible rfl | with_reducible assumption | omega))
          refine lv_iload S.x S.b d_Mpg_enumeration_86 (lv_at hl 0 rfl) ?_
          refine lv_istore_n (lv' := [(2, .int v68), (4, .int v68), (0, .ref h), (1, .int x31_1), (3, .int x31_3)]) S.x S.b d_Mpg_enumeration_88 rfl hl (by decide) rfl (fun ls hl => ?_)
          refine lv_aload_n S.x S.b d_Mpg_enumeration_89 rfl (lv_at hl 2 rfl) ?_
          obtain ⟨sk102, hRsk102, st103, sb104, hSsk102⟩ := oP_lit hP (k := 99) (tx := ",") (n := 1) (List.mem_of_getElem? (i := 41) rfl)
          refine va_ldcS S.x S.b S.own hRsk102 d_Mpg_enumeration_90 ?_
          first | refine px_calli (pr := []) (px_runV (As := [.ref sk102]) (rest := []) S (c_mp_takes l D cs sk102 1 h r g tf ta na101 ma66 wa_31 cf ca ef ea xf xa pf82   (show 0 ≤ (pf82 11).toInt from (oz_b1ffee609c e86 e71 e85.1 g0 k31_4 e53)) (show (pf82 11).toInt < (tf 6).toInt from e87) (show (tf 6).toInt ≤ 2049 from g2) (show 1 ≤ 100 from by first | decide | omega) htk _) hT (pr := []) (pcs := [wdP cs h r g tf ta pf82 na101 ma66 wa_31 cf ca ef ea xf xa]) hw (oX_call (P := (fun A U H => (oP A g U H) ∧ (StS A sk102 1 U H))) (pr := []) (oG_and oG_P oG_Q) hw hA ⟨hP, ⟨_, _, hSsk102⟩⟩) (px_recv hT hw 0 0 rfl rfl rfl) m12_6 m12_3 m12_5 ms_9_3 m1_21 q_Mpg_takes ⟨show 4 + 1 ≤ (8 * 61 + 24) from by first | with_reducible rfl | with_reducible assumption | omega, show 8 + (3 + 11) + 160 ≤ (220 * 61 + 1120) from by first | with_reducible rfl | with_reducible assumption | omega⟩ hl.1 rfl (Nat.le_of_ble_eq_true rfl) d_Mpg_enumeration_92 ⟨Nat.le_of_ble_eq_true rfl, Nat.le_of_ble_eq_true rfl⟩) hw hA (fun v108 p107 H locs hp107 hw => ?_) | refine px_calli (pr := []) (px_runV (As := [.ref sk102]) (rest := []) S (c_mp_takes l D cs sk102 1 h r g tf ta na101 ma66 wa_31 cf ca ef ea xf xa pf82   (show 0 ≤ (pf82 11).toInt from by first | exact oz_b1ffee609c e86 e71 e85.1 g0 k31_4 e53 | omega) (show (pf82 11).toInt < (tf 6).toInt from by first | exact e87 | omega) (show (tf 6).toInt ≤ 2049 from by first | exact g2 | omega) (show 1 ≤ 100 from by first | decide | omega) htk _) hT (pr := []) (pcs := [wdP cs h r g tf ta pf82 na101 ma66 wa_31 cf ca ef ea xf xa]) hw (oX_call (P := (fun A U H => (oP A g U H) ∧ (StS A sk102 1 U H))) (pr := []) (oG_and oG_P oG_Q) hw hA ⟨hP, ⟨_, _, hSsk102⟩⟩) (px_recv hT hw 0 0 rfl rfl rfl) m12_6 m12_3 m12_5 ms_9_3 m1_21 q_Mpg_takes ⟨show 4 + 1 ≤ (8 * 61 + 24) from by first | with_reducible rfl | with_reducible assumption | omega, show 8 + (3 + 11) + 160 ≤ (220 * 61 + 1120) from by first | with_reducible rfl | with_reducible assumption | omega⟩ hl.1 rfl (Nat.le_of_ble_eq_true rfl) d_Mpg_enumeration_92 ⟨Nat.le_of_ble_eq_true rfl, Nat.le_of_ble_eq_true rfl⟩) hw hA (fun v108 p107 H locs hp107 hw => ?_)
          obtain ⟨pf106, rfl, e109, e110, e111, e112, e113, e114, e115, e116, e117⟩ := hp107
          have e109 := z_rng e109
          have e110 : (pf106 11).toInt = (pf82 11).toInt + v108.toInt := e110
          have e111 : (pf106 11).toInt < (tf 6).toInt := e111
          have e112 : bp ta (pf82 11) + v108.toInt ≤ bp ta (pf106 11) := e112
          have e113 : (pf106 12).toInt = (pf82 12).toInt := e113
          have e114 : (pf106 13).toInt = (pf82 13).toInt := e114
          have e115 : (pf106 24).toInt = (pf82 24).toInt := e115
          have e116 : (pf106 25).toInt = (pf82 25).toInt := e116
          have e117 : (pf106 26).toInt = (pf82 26).toInt := e117
          have lv108 := Int32.le_toInt v108
          have uv108 := Int32.toInt_lt v108
          refine lv_istore_n (lv' := [(3, .int v108), (2, .int v68), (4, .int v68), (0, .ref h), (1, .int x31_1)]) S.x S.b d_Mpg_enumeration_95 rfl hl (by decide) rfl (fun ls hl => ?_)
          refine lv_goto (tgt := 31) S.x S.b d_Mpg_enumeration_96 (by decide) ?_
          first | exact ih31 pf106 na101 ma66 wa_31 x31_1 v68 v108 _ _ ls (show (pf106 12).toInt = 1 from (oz_b0dd40d105 e113 e89 e72 e56 k31_0)) (show (pf106 26).toInt = 0 from (oz_79fbce337c e117 e93 e75 e60 k31_1)) (show (pf106 24).toInt = (pf 24).toInt from (oz_0867352dd7 k31_2 e115 e58 e91 e73)) (show (pf106 25).toInt = (pf 25).toInt from (oz_0867352dd7 k31_3 e116 e59 e92 e74)) (show (pf 11).toInt + 2 ≤ (pf106 11).toInt from (oz_9accb9079f k31_4 e110 e53 e86 e109.1 e71 e85.1)) (show (pf106 11).toInt < (tf 6).toInt from e111) (show x31_1.toInt = (pf 13).toInt from k31_6) (show x31_1.toInt < (pf106 13).toInt from (oz_eca898f282 k31_7 e114 e57 e90 e70)) (show (pf106 13).toInt - (pf 13).toInt ≤ (pf106 11).toInt - (pf 11).toInt from (oz_5ba3dd379f k31_8 e110 e114 e53 e57 e86 e90 e109.1 e70 e71 e85.1)) (show bp ta (pf 11) + 2 ≤ bp ta (pf106 11) from (oz_f5dc7dbaba k31_9 e112 e55 e88 e109.1 qb771 e85.1)) (show v68.toInt = -1 ∨ x31_1.toInt + 1 ≤ v68.toInt from by first | with_reducible rfl | with_reducible assumption | omega) (show v68.toInt < (pf106 13).toInt from (oz_01862000b2 e69 e114 e70 e90)) (show 0 ≤ v108.toInt from e109.1) (show v108.toInt ≤ 1 from e109.2) (show FrB 0 na ma na101 ma66 from hfb) (show FrW (pf 26).toInt wa wa_31 from hfw) (show NdF (tf 6).toInt na101 x31_1 43 (pf 11) from ⟨by first | with_reducible rfl | with_reducible assumption | omega, hf_14_x31_1, hf_15_x31_1, ⟨by first | with_reducible rfl | with_reducible assumption | omega, by first | with_reducible rfl | with_reducible assumption | omega⟩, hf_21_x31_1⟩) (show ZfK ta (tf 6).toInt na101 ma66 (na101 17) x31_1 v68 (x31_1.toInt + 1) (pf106 13).toInt (3 * (bp ta (pf106 11) - bp ta (pf 11)) - 3 * v108.toInt) 130 from ⟨_, hf_17_x31_1, Or.inr (RwV.le hrw_v68 (by first | with_reducible rfl | with_reducible assumption | omega) (by first | with_reducible rfl | with_reducible assumption | omega) (by first | with_reducible rfl | with_reducible assumption | omega) (by first | with_reducible rfl | with_reducible assumption | omega))⟩) (show RzG ta (tf 6).toInt na101 ma66 (pf 24) (pf 25) 0 (pf 13).toInt (3 * bp ta (pf 11)) 200 from (RzV.le (rz_eq hzg (by first | with_reducible rfl | with_reducible assumption | omega) (by first | with_reducible rfl | with_reducible assumption | omega)) (by first | with_reducible rfl | with_reducible assumption | omega) (by first | with_reducible rfl | with_reducible assumption | omega) (by first | with_reducible rfl | with_reducible assumption | omega) (by first | with_reducible rfl | with_reducible assumption | omega))) (show FsI (tf 6).toInt (pf106 13).toInt na101 from (FsI.le hfs (by first | with_reducible rfl | with_reducible assumption | omega))) (show 2 * ((tf 6).toInt - (pf106 11).toInt) + v108.toInt < (n_31 : Int) from (oz_0a76174abd hm e109.1 e110 k31_12 e53 e71 e86 e85.1)) hw (lv_sub hl [3, 4, 1, 0] rfl) | exact ih31 pf106 na101 ma66 wa_31 x31_1 v68 v108 _ _ ls (show (pf106 12).toInt = 1 from by first | exact oz_b0dd40d105 e113 e89 e72 e56 k31_0 | omega) (show (pf106 26).toInt = 0 from by first | exact oz_79fbce337c e117 e93 e75 e60 k31_1 | omega) (show (pf106 24).toInt = (pf 24).toInt from by first | exact oz_0867352dd7 k31_2 e115 e58 e91 e73 | omega) (show (pf106 25).toInt = (pf 25).toInt from by first | exact oz_0867352dd7 k31_3 e116 e59 e92 e74 | omega) (show (pf 11).toInt + 2 ≤ (pf106 11).toInt from by first | exact oz_9accb9079f k31_4 e110 e53 e86 e109.1 e71 e85.1 | omega) (show (pf106 11).toInt < (tf 6).toInt from by first | exact e111 | omega) (show x31_1.toInt = (pf 13).toInt from by first | exact k31_6 | omega) (show x31_1.toInt < (pf106 13).toInt from by first | exact oz_eca898f282 k31_7 e114 e57 e90 e70 | omega) (show (pf106 13).toInt - (pf 13).toInt ≤ (pf106 11).toInt - (pf 11).toInt from by first | exact oz_5ba3dd379f k31_8 e110 e114 e53 e57 e86 e90 e109.1 e70 e71 e85.1 | omega) (show bp ta (pf 11) + 2 ≤ bp ta (pf106 11) from by first | exact oz_f5dc7dbaba k31_9 e112 e55 e88 e109.1 qb771 e85.1 | omega) (show v68.toInt = -1 ∨ x31_1.toInt + 1 ≤ v68.toInt from by first | with_reducible rfl | with_reducible assumption | omega) (show v68.toInt < (pf106 13).toInt from by first | exact oz_01862000b2 e69 e114 e70 e90 | omega) (show 0 ≤ v108.toInt from by first | exact e109.1 | omega) (show v108.toInt ≤ 1 from by first | exact e109.2 | omega) (show FrB 0 na ma na101 ma66 from hfb) (show FrW (pf 26).toInt wa wa_31 from hfw) (show NdF (tf 6).toInt na101 x31_1 43 (pf 11) from ⟨by first | with_reducible rfl | with_reducible assumption | omega, hf_14_x31_1, hf_15_x31_1, ⟨by first | with_reducible rfl | with_reducible assumption | omega, by first | with_reducible rfl | with_reducible assumption | omega⟩, hf_21_x31_1⟩) (show ZfK ta (tf 6).toInt na101 ma66 (na101 17) x31_1 v68 (x31_1.toInt + 1) (pf106 13).toInt (3 * (bp ta (pf106 11) - bp ta (pf 11)) - 3 * v108.toInt) 130 from ⟨_, hf_17_x31_1, Or.inr (RwV.le hrw_v68 (by first | with_reducible rfl | with_reducible assumption | omega) (by first | with_reducible rfl | with_reducible assumption | omega) (by first | with_reducible rfl | with_reducible assumption | omega) (by first | with_reducible rfl | with_reducible assumption | omega))⟩) (show RzG ta (tf 6).toInt na101 ma66 (pf 24) (pf 25) 0 (pf 13).toInt (3 * bp ta (pf 11)) 200 from (RzV.le (rz_eq hzg (by first | with_reducible rfl | with_reducible assumption | omega) (by first | with_reducible rfl | with_reducible assumption | omega)) (by first | with_reducible rfl | with_reducible assumption | omega) (by first | with_reducible rfl | with_reducible assumption | omega) (by first | with_reducible rfl | with_reducible assumption | omega) (by first | with_reducible rfl | with_reducible assumption | omega))) (show FsI (tf 6).toInt (pf106 13).toInt na101 from (FsI.le hfs (by first | with_reducible rfl | with_reducible assumption | omega))) (show 2 * ((tf 6).toInt - (pf106 11).toInt) + v108.toInt < (n_31 : Int) from by first | exact oz_0a76174abd hm e109.1 e110 k31_12 e53 e71 e86 e85.1 | omega) hw (lv_sub hl [3, 4, 1, 0] rfl)
        · have nc94 : ¬ v84.toInt = (0 : Int) := mt (i_eq (x := v84) (y := 0)).mpr c94
          refine lv_aload_n S.x S.b d_Mpg_enumeration_56 rfl (lv_at hl 1 rfl) ?_
          refine px_get S k_Mpg hT hw 0 0 17 (v := .ref (r 17)) rfl rfl rfl (by decide) m10_1 d_Mpg_enumeration_57 ?_
          refine lv_iload S.x S.b d_Mpg_enumeration_60 (lv_at hl 0 rfl) ?_
          refine lv_aload_n S.x S.b d_Mpg_enumeration_62 rfl (lv_at hl 1 rfl) ?_
          first | refine th_calli (ps0 := [wdP cs h r g tf ta pf na ma wa cf ca ef ea xf xa]) (pr := []) (pcs := [wdP cs h r g tf ta pf82 na65 ma66 wa_31 cf ca ef ea xf xa]) (As := []) (rest := [.int v68, .ref (r 17)]) (c_mp_constant l D cs h r g tf ta cf ca ef ea xf xa pf82 na65 ma66 wa_31  lv (show 0 ≤ (pf82 11).toInt from (oz_b1ffee609c e86 e71 e85.1 g0 k31_4 e53)) (show (pf82 11).toInt < (tf 6).toInt from e87) (show (tf 6).toInt ≤ 2049 from g2) (show 0 ≤ (pf82 12).toInt from (oz_e2bb57d886 e89 e72 e56 k31_0)) (show (pf82 12).toInt ≤ 60 from (oz_9bdc265ae5 e89 e72 e56 k31_0)) (show 0 ≤ (pf82 13).toInt from (oz_ad3061ceaa e90 e70 e57 k31_7 g4 k31_6)) (show (pf82 13).toInt ≤ (pf82 11).toInt + 10 from (oz_e4b089fc76 e86 e90 e70 e71 e85.1 g5 k31_8 e53 e57)) (show 0 ≤ (pf82 26).toInt from (oz_64b6d1b64d e93 e75 e60 k31_1)) (show (pf82 26).toInt ≤ (pf82 12).toInt from (oz_91a3c55eb7 e89 e93 e72 e75 e56 e60 k31_0 k31_1)) (show 61 ≤ (pf82 12).toInt + (lv : Int) from by first | with_reducible rfl | with_reducible assumption | omega) (show lv ≤ 61 from by first | with_reducible rfl | with_reducible assumption | omega) hlf htk (FsI.le (N' := (pf82 13).toInt) hfs (by first | with_reducible rfl | with_reducible assumption | omega))) S hT hw (oX_call (P := (fun A U H => (oN A U H) ∧ (oP A g U H))) (pr := []) (oG_and oG_N oG_P) hw hA ⟨hN, hP⟩) (px_recv hT hw 0 0 rfl rfl rfl) m12_10 m12_7 m12_9 ms_9_4 m1_21 q_Mpg_constant ⟨show (8 * lv + 21) + 1 ≤ (8 * 61 + 24) from by first | with_reducible rfl | with_reducible assumption | omega, show 8 + (2 + 11) + (220 * lv + 720) ≤ (220 * 61 + 1120) from by first | with_reducible rfl | with_reducible assumption | omega⟩ hl.1 rfl (Nat.le_of_ble_eq_true rfl) d_Mpg_enumeration_63 ⟨Nat.le_of_ble_eq_true rfl, Nat.le_of_ble_eq_true rfl⟩ hne hlk hA hAe (fun o t h => Or.inr h) ?_ (fun v127 p126 H locs hp126 hw => ?_) | refine th_calli (ps0 := [wdP cs h r g tf ta pf na ma wa cf ca ef ea xf xa]) (pr := []) (pcs := [wdP cs h r g tf ta pf82 na65 ma66 wa_31 cf ca ef ea xf xa]) (As := []) (rest := [.int v68, .ref (r 17)]) (c_mp_constant l D cs h r g tf ta cf ca ef ea xf xa pf82 na65 ma66 wa_31  lv (show 0 ≤ (pf82 11).toInt from by first | exact oz_b1ffee609c e86 e71 e85.1 g0 k31_4 e53 | omega) (show (pf82 11).toInt < (tf 6).toInt from by first | exact e87 | omega) (show (tf 6).toInt ≤ 2049 from by first | exact g2 | omega) (show 0 ≤ (pf82 12).toInt from by first | exact oz_e2bb57d886 e89 e72 e56 k31_0 | omega) (show (pf82 12).toInt ≤ 60 from by first | exact oz_9bdc265ae5 e89 e72 e56 k31_0 | omega) (show 0 ≤ (pf82 13).toInt from by first | exact oz_ad3061ceaa e90 e70 e57 k31_7 g4 k31_6 | omega) (show (pf82 13).toInt ≤ (pf82 11).toInt + 10 from by first | exact oz_e4b089fc76 e86 e90 e70 e71 e85.1 g5 k31_8 e53 e57 | omega) (show 0 ≤ (pf82 26).toInt from by first | exact oz_64b6d1b64d e93 e75 e60 k31_1 | omega) (show (pf82 26).toInt ≤ (pf82 12).toInt from by first | exact oz_91a3c55eb7 e89 e93 e72 e75 e56 e60 k31_0 k31_1 | omega) (show 61 ≤ (pf82 12).toInt + (lv : Int) from by first | with_reducible rfl | with_reducible assumption | omega) (show lv ≤ 61 from by first | with_reducible rfl | with_reducible assumption | omega) hlf htk (FsI.le (N' := (pf82 13).toInt) hfs (by first | with_reducible rfl | with_reducible assumption | omega))) S hT hw (oX_call (P := (fun A U H => (oN A U H) ∧ (oP A g U H))) (pr := []) (oG_and oG_N oG_P) hw hA ⟨hN, hP⟩) (px_recv hT hw 0 0 rfl rfl rfl) m12_10 m12_7 m12_9 ms_9_4 m1_21 q_Mpg_constant ⟨show (8 * lv + 21) + 1 ≤ (8 * 61 + 24) from by first | with_reducible rfl | with_reducible assumption | omega, show 8 + (2 + 11) + (220 * lv + 720) ≤ (220 * 61 + 1120) from by first | with_reducible rfl | with_reducible assumption | omega⟩ hl.1 rfl (Nat.le_of_ble_eq_true rfl) d_Mpg_enumeration_63 ⟨Nat.le_of_ble_eq_true rfl, Nat.le_of_ble_eq_true rfl⟩ hne hlk hA hAe (fun o t h => Or.inr h) ?_ (fun v127 p126 H locs hp126 hw => ?_)
          · exact fun p1 H1 locs1 hp hw => by obtain ⟨pq1, pq2, pq3, pq4, rfl, hq1, hq2⟩ := hp; exact ⟨_, ⟨pq1, pq2, pq3, pq4, rfl, hq1, hq2⟩, hw⟩
          obtain ⟨pf122, na123, ma124, wa125, rfl, e128, e129, e130, e131, e132, e133, e134, e135, e136, e137, e138, e139, e140⟩ := hp126
          have e128 : (pf82 11).toInt + 1 ≤ (pf122 11).toInt := e128
          have e129 : (pf122 11).toInt < (tf 6).toInt := e129
          have e130 : (pf82 13).toInt + 1 ≤ (pf122 13).toInt := e130
          have e131 : (pf122 13).toInt - (pf82 13).toInt ≤ (pf122 11).toInt - (pf82 11).toInt := e131
          have e132 : bp ta (pf82 11) + 1 ≤ bp ta (pf122 11) := e132
          have e133 : (pf122 12).toInt = (pf82 12).toInt := e133
          have e134 : (pf122 24).toInt = (pf82 24).toInt := e134
          have e135 : (pf122 25).toInt = (pf82 25).toInt := e135
          have e136 : (pf122 26).toInt = (pf82 26).toInt := e136
          have e137 : FrB (pf82 13).toInt na65 ma66 na123 ma124 := e137
          have hf_14_x31_1 := (fb_n e137 (by first | with_reducible rfl | with_reducible assumption | omega) (by first | with_reducible rfl | with_reducible assumption | omega)).trans hf_14_x31_1
          have hf_15_x31_1 := (fb_n e137 (by first | with_reducible rfl | with_reducible assumption | omega) (by first | with_reducible rfl | with_reducible assumption | omega)).trans hf_15_x31_1
          have hf_21_x31_1 := (fb_n e137 (by first | with_reducible rfl | with_reducible assumption | omega) (by first | with_reducible rfl | with_reducible assumption | omega)).trans hf_21_x31_1
          have hf_17_x31_1 := (fb_n e137 (by first | with_reducible rfl | with_reducible assumption | omega) (by first | with_reducible rfl | with_reducible assumption | omega)).trans hf_17_x31_1
          have hf_14_v68 := (fb_n e137 (by first | with_reducible rfl | with_reducible assumption | omega) (by first | with_reducible rfl | with_reducible assumption | omega)).trans hf_14_v68
          have hf_15_v68 := (fb_n e137 (by first | with_reducible rfl | with_reducible assumption | omega) (by first | with_reducible rfl | with_reducible assumption | omega)).trans hf_15_v68
          have hf_17_v68 := (fb_n e137 (by first | with_reducible rfl | with_reducible assumption | omega) (by first | with_reducible rfl | with_reducible assumption | omega)).trans hf_17_v68
          have hf_21_v68 := (fb_n e137 (by first | with_reducible rfl | with_reducible assumption | omega) (by first | with_reducible rfl | with_reducible assumption | omega)).trans hf_21_v68
          have hrw_x31_2 := hrw_x31_2.ag fk_ok (FrB.ag e137 (by first | with_reducible rfl | with_reducible assumption | omega))
          have hzg := hzg.ag fg_ok (FrB.ag e137 (by first | with_reducible rfl | with_reducible assumption | omega))
          have hfb := hfb.tr e137 (by first | with_reducible rfl | with_reducible assumption | omega)
          have e138 : FrW (pf82 26).toInt wa_31 wa125 := e138
          have hfw := hfw.tr e138 (by first | with_reducible rfl | with_reducible assumption | omega)
          have e139 : ExR ta (tf 6).toInt na123 ma124 v127 (pf82 13).toInt (pf122 13).toInt (3 * (bp ta (pf122 11) - bp ta (pf82 11))) (pf82 12).toInt := e139
          have ht_v127 := e139
          have hn_ht_v127 := ht_v127.num
          have e140 : FsI (tf 6).toInt (pf122 13).toInt na123 := e140
          have hfs := e140
          have lv127 := Int32.le_toInt v127
          have uv127 := Int32.toInt_lt v127
          refine px_iast S hT hw 0 13 (n := 2100) (f := (na123 17)) (x := v68) (y := v127) rfl gp_17 (vp_in_iff.mpr (by constructor <;> omega)) d_Mpg_enumeration_66 (w' := wdP cs h r g tf ta pf122 (va_up na123 17 (upd (na123 17) v68.toNatClampNeg v127)) ma124 wa125 cf ca ef ea xf xa) (ps' := [wdP cs h r g tf ta pf122 (va_up na123 17 (upd (na123 17) v68.toNatClampNeg v127)) ma124 wa125 cf ca ef ea xf xa]) sp_17 rfl (fun H locs hw => ?_)
          obtain ⟨na141, hu_na141⟩ : ∃ y : Nat → Nat → Int32, y = va_up na123 17 (upd (na123 17) v68.toNatClampNeg v127) := ⟨_, rfl⟩
          have hw : pw D A s.heap _ _ [wdP cs h r g tf ta pf122 na141 ma124 wa125 cf ca ef ea xf xa] := (by rw [hu_na141]; exact hw)
          obtain ⟨ht_v127, hdq_v127⟩ := ht_v127.ag (ag_n hu_na141 (by first | with_reducible rfl | with_reducible assumption | omega) (by first | with_reducible rfl | with_reducible assumption | omega)) (by first | with_reducible rfl | with_reducible assumption | omega)
          have hn_ht_v127 := ht_v127.num
          have hrw_x31_2 := hrw_x31_2.ag fk_ok (ag_n hu_na141 (by first | with_reducible rfl | with_reducible assumption | omega) (by first | with_reducible rfl | with_reducible assumption | omega))
          have hf_14_x31_1 := (fl_n hu_na141 (by decide)).trans hf_14_x31_1
          have hf_15_x31_1 := (fl_n hu_na141 (by decide)).trans hf_15_x31_1
          have hf_21_x31_1 := (fl_n hu_na141 (by decide)).trans hf_21_x31_1
          have hf_17_x31_1 := (fl_f hu_na141 (by first | with_reducible rfl | with_reducible assumption | omega) (by first | with_reducible rfl | with_reducible assumption | omega) (by first | with_reducible rfl | with_reducible assumption | omega)).trans hf_17_x31_1
          have hf_14_v68 := (fl_n hu_na141 (by decide)).trans hf_14_v68
          have hf_15_v68 := (fl_n hu_na141 (by decide)).trans hf_15_v68
          have hf_21_v68 := (fl_n hu_na141 (by decide)).trans hf_21_v68
          have hf_17_v68 : na141 17 v68.toNatClampNeg = v127 := (by rw [hu_na141, va_up_s, pk_us])
          have hfs : FsI _ _ na141 := (by rw [hu_na141]; exact FsI.un hfs (by decide))
          have hfb : FrB 0 na ma na141 ma124 := (by rw [hu_na141]; exact FrB.un hfb (by first | with_reducible rfl | with_reducible assumption | omega) (by first | with_reducible rfl | with_reducible assumption | omega))
          have hzg := hzg.ag fg_ok (ag_n hu_na141 (by first | with_reducible rfl | with_reducible assumption | omega) (by first | with_reducible rfl | with_reducible assumption | omega))
          refine lv_aload_n S.x S.b d_Mpg_enumeration_67 rfl (lv_at hl 1 rfl) ?_
          have hv_v68 := vl_con (c := (tf 6).toInt) (ma := ma124) (hi := (pf122 13).toInt) (D := 130) ⟨by first | with_reducible rfl | with_reducible assumption | omega, hf_14_v68, hf_15_v68, ⟨by first | with_reducible rfl | with_reducible assumption | omega, by first | with_reducible rfl | with_reducible assumption | omega⟩, hf_21_v68⟩ (show SoIs ta v50 1 by assumption) (by first | with_reducible rfl | with_reducible assumption | omega) hf_17_v68 (by first | with_reducible rfl | with_reducible assumption | omega) (lo := v68.toInt + 1) (oz_v fe_ok (VlV.le (exr_vl ht_v127 (by first | with_reducible rfl | with_reducible assumption | omega)) (by first | with_reducible rfl | with_reducible assumption | omega) (by first | with_reducible rfl | with_reducible assumption | omega) (Int.le_refl _) (by first | with_reducible rfl | with_reducible assumption | omega))) (by first | with_reducible rfl | with_reducible assumption | omega); have hn_hv_v68 := hv_v68.num fk_ok
          refine px_get S k_Mpg hT hw 0 0 17 (v := .ref (r 17)) rfl rfl rfl (by decide) m10_1 d_Mpg_enumeration_68 ?_
          refine lv_iload_n S.x S.b d_Mpg_enumeration_71 rfl (lv_at hl 2 rfl) ?_
          refine lv_aload_n S.x S.b d_Mpg_enumeration_72 rfl (lv_at hl 1 rfl) ?_
          refine lv_aload_n S.x S.b d_Mpg_enumeration_73 rfl (lv_at hl 1 rfl) ?_
          refine px_get S k_Mpg hT hw 0 0 17 (v := .ref (r 17)) rfl rfl rfl (by decide) m10_1 d_Mpg_enumeration_74 ?_
          refine lv_iload_n S.x S.b d_Mpg_enumeration_77 rfl (lv_at hl 2 rfl) ?_
          refine px_iald S hT hw 0 13 (n := 2100) (f := (na141 17)) rfl gp_17 (x := x31_1) (vp_in_iff.mpr (by first | exact oz_779f263daf k31_6 g4 g5 k31_4 e53 g2 e54 | (constructor <;> omega))) d_Mpg_enumeration_78 ?_
          refine lv_topi (fun z142 ez142 => ?_)
          have lz142 := Int32.le_toInt z142
          have uz142 := Int32.toInt_lt z142
          have hsz142 : b2 = z142 := (ez142.trans hf_17_x31_1).symm; subst hsz142
          refine lv_iload_n S.x S.b d_Mpg_enumeration_79 rfl (lv_at hl 3 rfl) ?_
          refine lv_iload S.x S.b d_Mpg_enumeration_80 (lv_at hl 0 rfl) ?_
          first | refine px_calli (pr := []) (px_runV (As := [.int b2, .int x31_2, .int v68]) (rest := [.int x31_1, .ref (r 17)]) S (c_mp_hang l D cs h r g tf ta pf122 ma124 wa125 cf ca ef ea xf xa na141 b2 x31_2 v68  (show x31_2.toInt < 2100 from (oz_fa92019150 k31_11 k31_8 g5 e53 g2 e54)) htk _) hT (pr := []) (pcs := [wdP cs h r g tf ta pf122 na141 ma124 wa125 cf ca ef ea xf xa]) hw px_X.tt (px_recv hT hw 0 0 rfl rfl rfl) m12_77 m12_74 m12_76 ms_10_4 m1_21 q_Mpg_hang ⟨show 0 + 1 ≤ (8 * 61 + 24) from by first | with_reducible rfl | with_reducible assumption | omega, show 8 + (4 + 11) + 0 ≤ (220 * 61 + 1120) from by first | with_reducible rfl | with_reducible assumption | omega⟩ hl.1 rfl (Nat.le_of_ble_eq_true rfl) d_Mpg_enumeration_82 ⟨Nat.le_of_ble_eq_true rfl, Nat.le_of_ble_eq_true rfl⟩) hw hA (fun v146 p145 H locs hp145 hw => ?_) | refine px_calli (pr := []) (px_runV (As := [.int b2, .int x31_2, .int v68]) (rest := [.int x31_1, .ref (r 17)]) S (c_mp_hang l D cs h r g tf ta pf122 ma124 wa125 cf ca ef ea xf xa na141 b2 x31_2 v68  (show x31_2.toInt < 2100 from by first | exact oz_fa92019150 k31_11 k31_8 g5 e53 g2 e54 | omega) htk _) hT (pr := []) (pcs := [wdP cs h r g tf ta pf122 na141 ma124 wa125 cf ca ef ea xf xa]) hw px_X.tt (px_recv hT hw 0 0 rfl rfl rfl) m12_77 m12_74 m12_76 ms_10_4 m1_21 q_Mpg_hang ⟨show 0 + 1 ≤ (8 * 61 + 24) from by first | with_reducible rfl | with_reducible assumption | omega, show 8 + (4 + 11) + 0 ≤ (220 * 61 + 1120) from by first | with_reducible rfl | with_reducible assumption | omega⟩ hl.1 rfl (Nat.le_of_ble_eq_true rfl) d_Mpg_enumeration_82 ⟨Nat.le_of_ble_eq_true rfl, Nat.le_of_ble_eq_true rfl⟩) hw hA (fun v146 p145 H locs hp145 hw => ?_)
          obtain ⟨na144, rfl, e147⟩ := hp145
          have e147 : Hg na141 na144 b2 x31_2 v68 v146 := e147
          have hf_14_x31_1 := (Hg.fld e147 (by first | with_reducible rfl | with_reducible assumption | omega) (by first | with_reducible rfl | with_reducible assumption | omega)).trans hf_14_x31_1
          have hf_15_x31_1 := (Hg.fld e147 (by first | with_reducible rfl | with_reducible assumption | omega) (by first | with_reducible rfl | with_reducible assumption | omega)).trans hf_15_x31_1
          have hf_21_x31_1 := (Hg.fld e147 (by first | with_reducible rfl | with_reducible assumption | omega) (by first | with_reducible rfl | with_reducible assumption | omega)).trans hf_21_x31_1
          have hf_17_x31_1 := (Hg.fld e147 (by first | with_reducible rfl | with_reducible assumption | omega) (by first | with_reducible rfl | with_reducible assumption | omega)).trans hf_17_x31_1
          have hrw_v68 := Hg.row e147 fk_ok hrw_x31_2 (VlV.le hv_v68 (by first | with_reducible rfl | with_reducible assumption | omega) (Int.le_refl _) (Int.le_refl _) (by first | with_reducible rfl | with_reducible assumption | omega)) (by first | with_reducible rfl | with_reducible assumption | omega) (by first | with_reducible rfl | with_reducible assumption | omega)
          have hn_hrw_v68 := hrw_v68.num
          have hfb := Hg.fb e147 hfb (by first | with_reducible rfl | with_reducible assumption | omega)
          have hfs := FsI.hg hfs e147
          have hzg := hzg.ag fg_ok (Hg.ag e147 (by first | with_reducible rfl | with_reducible assumption | omega))
          have lv146 := Int32.le_toInt v146
          have uv146 := Int32.toInt_lt v146
          refine px_iast S hT hw 0 13 (n := 2100) (f := (na144 17)) (x := x31_1) (y := v146) rfl gp_17 (vp_in_iff.mpr (by constructor <;> omega)) d_Mpg_enumeration_85 (w' := wdP cs h r g tf ta pf122 (va_up na144 17 (upd (na144 17) x31_1.toNatClampNeg v146)) ma124 wa125 cf ca ef ea xf xa) (ps' := [wdP cs h r g tf ta pf122 (va_up na144 17 (upd (na144 17) x31_1.toNatClampNeg v146)) ma124 wa125 cf ca ef ea xf xa]) sp_17 rfl (fun H locs hw => ?_)
          obtain ⟨na148, hu_na148⟩ : ∃ y : Nat → Nat → Int32, y = va_up na144 17 (upd (na144 17) x31_1.toNatClampNeg v146) := ⟨_, rfl⟩
          have hw : pw D A s.heap _ _ [wdP cs h r g tf ta pf122 na148 ma124 wa125 cf ca ef ea xf xa] := (by rw [hu_na148]; exact hw)
          have hrw_v68 := hrw_v68.ag fk_ok (ag_n hu_na148 (by first | with_reducible rfl | with_reducible assumption | omega) (by first | with_reducible rfl | with_reducible assumption | omega))
          have hf_14_x31_1 := (fl_n hu_na148 (by decide)).trans hf_14_x31_1
          have hf_15_x31_1 := (fl_n hu_na148 (by decide)).trans hf_15_x31_1
          have hf_21_x31_1 := (fl_n hu_na148 (by decide)).trans hf_21_x31_1
          have hf_17_x31_1 : na148 17 x31_1.toNatClampNeg = v146 := (by rw [hu_na148, va_up_s, pk_us])
          have hfs : FsI _ _ na148 := (by rw [hu_na148]; exact FsI.un hfs (by decide))
          have hfb : FrB 0 na ma na148 ma124 := (by rw [hu_na148]; exact FrB.un hfb (by first | with_reducible rfl | with_reducible assumption | omega) (by first | with_reducible rfl | with_reducible assumption | omega))
          have hzg := hzg.ag fg_ok (ag_n hu_na148 (by first | with_reducible rfl | with_reducible assumption | omega) (by first | with_reducible rfl | with_reducible assumption | omega))
          refine lv_iload S.x S.b d_Mpg_enumeration_86 (lv_at hl 0 rfl) ?_
          refine lv_istore_n (lv' := [(2, .int v68), (4, .int v68), (0, .ref h), (1, .int x31_1), (3, .int x31_3)]) S.x S.b d_Mpg_enumeration_88 rfl hl (by decide) rfl (fun ls hl => ?_)
          refine lv_aload_n S.x S.b d_Mpg_enumeration_89 rfl (lv_at hl 2 rfl) ?_
          obtain ⟨sk149, hRsk149, st150, sb151, hSsk149⟩ := oP_lit hP (k := 99) (tx := ",") (n := 1) (List.mem_of_getElem? (i := 41) rfl)
          refine va_ldcS S.x S.b S.own hRsk149 d_Mpg_enumeration_90 ?_
          first | refine px_calli (pr := []) (px_runV (As := [.ref sk149]) (rest := []) S (c_mp_takes l D cs sk149 1 h r g tf ta na148 ma124 wa125 cf ca ef ea xf xa pf122   (show 0 ≤ (pf122 11).toInt from (oz_f3b7cb1671 e128 e86 g0 k31_4 e53 e71 e85.1)) (show (pf122 11).toInt < (tf 6).toInt from e129) (show (tf 6).toInt ≤ 2049 from g2) (show 1 ≤ 100 from by first | decide | omega) htk _) hT (pr := []) (pcs := [wdP cs h r g tf ta pf122 na148 ma124 wa125 cf ca ef ea xf xa]) hw (oX_call (P := (fun A U H => (oP A g U H) ∧ (StS A sk149 1 U H))) (pr := []) (oG_and oG_P oG_Q) hw hA ⟨hP, ⟨_, _, hSsk149⟩⟩) (px_recv hT hw 0 0 rfl rfl rfl) m12_6 m12_3 m12_5 ms_9_3 m1_21 q_Mpg_takes ⟨show 4 + 1 ≤ (8 * 61 + 24) from by first | with_reducible rfl | with_reducible assumption | omega, show 8 + (3 + 11) + 160 ≤ (220 * 61 + 1120) from by first | with_reducible rfl | with_reducible assumption | omega⟩ hl.1 rfl (Nat.le_of_ble_eq_true rfl) d_Mpg_enumeration_92 ⟨Nat.le_of_ble_eq_true rfl, Nat.le_of_ble_eq_true rfl⟩) hw hA (fun v155 p154 H locs hp154 hw => ?_) | refine px_calli (pr := []) (px_runV (As := [.ref sk149]) (rest := []) S (c_mp_takes l D cs sk149 1 h r g tf ta na148 ma124 wa125 cf ca ef ea xf xa pf122   (show 0 ≤ (pf122 11).toInt from by first | exact oz_f3b7cb1671 e128 e86 g0 k31_4 e53 e71 e85.1 | omega) (show (pf122 11).toInt < (tf 6).toInt from by first | exact e129 | omega) (show (tf 6).toInt ≤ 2049 from by first | exact g2 | omega) (show 1 ≤ 100 from by first | decide | omega) htk _) hT (pr := []) (pcs := [wdP cs h r g tf ta pf122 na148 ma124 wa125 cf ca ef ea xf xa]) hw (oX_call (P := (fun A U H => (oP A g U H) ∧ (StS A sk149 1 U H))) (pr := []) (oG_and oG_P oG_Q) hw hA ⟨hP, ⟨_, _, hSsk149⟩⟩) (px_recv hT hw 0 0 rfl rfl rfl) m12_6 m12_3 m12_5 ms_9_3 m1_21 q_Mpg_takes ⟨show 4 + 1 ≤ (8 * 61 + 24) from by first | with_reducible rfl | with_reducible assumption | omega, show 8 + (3 + 11) + 160 ≤ (220 * 61 + 1120) from by first | with_reducible rfl | with_reducible assumption | omega⟩ hl.1 rfl (Nat.le_of_ble_eq_true rfl) d_Mpg_enumeration_92 ⟨Nat.le_of_ble_eq_true rfl, Nat.le_of_ble_eq_true rfl⟩) hw hA (fun v155 p154 H locs hp154 hw => ?_)
          obtain ⟨pf153, rfl, e156, e157, e158, e159, e160, e161, e162, e163, e164⟩ := hp154
          have e156 := z_rng e156
          have e157 : (pf153 11).toInt = (pf122 11).toInt + v155.toInt := e157
          have e158 : (pf153 11).toInt < (tf 6).toInt := e158
          have e159 : bp ta (pf122 11) + v155.toInt ≤ bp ta (pf153 11) := e159
          have e160 : (pf153 12).toInt = (pf122 12).toInt := e160
          have e161 : (pf153 13).toInt = (pf122 13).toInt := e161
          have e162 : (pf153 24).toInt = (pf122 24).toInt := e162
          have e163 : (pf153 25).toInt = (pf122 25).toInt := e163
          have e164 : (pf153 26).toInt = (pf122 26).toInt := e164
          have lv155 := Int32.le_toInt v155
          have uv155 := Int32.toInt_lt v155
          refine lv_istore_n (lv' := [(3, .int v155), (2, .int v68), (4, .int v68), (0, .ref h), (1, .int x31_1)]) S.x S.b d_Mpg_enumeration_95 rfl hl (by decide) rfl (fun ls hl => ?_)
          refine lv_goto (tgt := 31) S.x S.b d_Mpg_enumeration_96 (by decide) ?_
          first | exact ih31 pf153 na148 ma124 wa125 x31_1 v68 v155 _ _ ls (show (pf153 12).toInt = 1 from (oz_cbada833cc e160 e133 e89 e72 e56 k31_0)) (show (pf153 26).toInt = 0 from (oz_13e43d3d4c e164 e136 e93 e75 e60 k31_1)) (show (pf153 24).toInt = (pf 24).toInt from (oz_a783471c71 k31_2 e162 e58 e134 e73 e91)) (show (pf153 25).toInt = (pf 25).toInt from (oz_a783471c71 k31_3 e163 e59 e135 e74 e92)) (show (pf 11).toInt + 2 ≤ (pf153 11).toInt from (oz_036f9dfa45 k31_4 e157 e53 e128 e156.1 e71 e86 e85.1)) (show (pf153 11).toInt < (tf 6).toInt from e158) (show x31_1.toInt = (pf 13).toInt from k31_6) (show x31_1.toInt < (pf153 13).toInt from (oz_3306f37a38 k31_7 e161 e57 e130 e70 e90)) (show (pf153 13).toInt - (pf 13).toInt ≤ (pf153 11).toInt - (pf 11).toInt from (oz_b18aec998c k31_8 e157 e161 e53 e57 e131 e156.1 e70 e71 e86 e90 e85.1)) (show bp ta (pf 11) + 2 ≤ bp ta (pf153 11) from (oz_8300a8d446 k31_9 e159 e55 e132 e156.1 qb771 e88 e85.1)) (show v68.toInt = -1 ∨ x31_1.toInt + 1 ≤ v68.toInt from by first | with_reducible rfl | with_reducible assumption | omega) (show v68.toInt < (pf153 13).toInt from (oz_59e62d555c e69 e161 e70 e130 e90)) (show 0 ≤ v155.toInt from e156.1) (show v155.toInt ≤ 1 from e156.2) (show FrB 0 na ma na148 ma124 from hfb) (show FrW (pf 26).toInt wa wa125 from hfw) (show NdF (tf 6).toInt na148 x31_1 43 (pf 11) from ⟨by first | with_reducible rfl | with_reducible assumption | omega, hf_14_x31_1, hf_15_x31_1, ⟨by first | with_reducible rfl | with_reducible assumption | omega, by first | with_reducible rfl | with_reducible assumption | omega⟩, hf_21_x31_1⟩) (show ZfK ta (tf 6).toInt na148 ma124 (na148 17) x31_1 v68 (x31_1.toInt + 1) (pf153 13).toInt (3 * (bp ta (pf153 11) - bp ta (pf 11)) - 3 * v155.toInt) 130 from ⟨_, hf_17_x31_1, Or.inr (RwV.le hrw_v68 (by first | with_reducible rfl | with_reducible assumption | omega) (by first | with_reducible rfl | with_reducible assumption | omega) (by first | with_reducible rfl | with_reducible assumption | omega) (by first | with_reducible rfl | with_reducible assumption | omega))⟩) (show RzG ta (tf 6).toInt na148 ma124 (pf 24) (pf 25) 0 (pf 13).toInt (3 * bp ta (pf 11)) 200 from (RzV.le (rz_eq hzg (by first | with_reducible rfl | with_reducible assumption | omega) (by first | with_reducible rfl | with_reducible assumption | omega)) (by first | with_reducible rfl | with_reducible assumption | omega) (by first | with_reducible rfl | with_reducible assumption | omega) (by first | with_reducible rfl | with_reducible assumption | omega) (by first | with_reducible rfl | with_reducible assumption | omega))) (show FsI (tf 6).toInt (pf153 13).toInt na148 from (FsI.le hfs (by first | with_reducible rfl | with_reducible assumption | omega))) (show 2 * ((tf 6).toInt - (pf153 11).toInt) + v155.toInt < (n_31 : Int) from (oz_706ac834a3 hm e156.1 e157 k31_12 e53 e71 e86 e128 e85.1)) hw (lv_sub hl [3, 4, 1, 0] rfl) | exact ih31 pf153 na148 ma124 wa125 x31_1 v68 v155 _ _ ls (show (pf153 12).toInt = 1 from by first | exact oz_cbada833cc e160 e133 e89 e72 e56 k31_0 | omega) (show (pf153 26).toInt = 0 from by first | exact oz_13e43d3d4c e164 e136 e93 e75 e60 k31_1 | omega) (show (pf153 24).toInt = (pf 24).toInt from by first | exact oz_a783471c71 k31_2 e162 e58 e134 e73 e91 | omega) (show (pf153 25).toInt = (pf 25).toInt from by first | exact oz_a783471c71 k31_3 e163 e59 e135 e74 e92 | omega) (show (pf 11).toInt + 2 ≤ (pf153 11).toInt from by first | exact oz_036f9dfa45 k31_4 e157 e53 e128 e156.1 e71 e86 e85.1 | omega) (show (pf153 11).toInt < (tf 6).toInt from by first | exact e158 | omega) (show x31_1.toInt = (pf 13).toInt from by first | exact k31_6 | omega) (show x31_1.toInt < (pf153 13).toInt from by first | exact oz_3306f37a38 k31_7 e161 e57 e130 e70 e90 | omega) (show (pf153 13).toInt - (pf 13).toInt ≤ (pf153 11).toInt - (pf 11).toInt from by first | exact oz_b18aec998c k31_8 e157 e161 e53 e57 e131 e156.1 e70 e71 e86 e90 e85.1 | omega) (show bp ta (pf 11) + 2 ≤ bp ta (pf153 11) from by first | exact oz_8300a8d446 k31_9 e159 e55 e132 e156.1 qb771 e88 e85.1 | omega) (show v68.toInt = -1 ∨ x31_1.toInt + 1 ≤ v68.toInt from by first | with_reducible rfl | with_reducible assumption | omega) (show v68.toInt < (pf153 13).toInt from by first | exact oz_59e62d555c e69 e161 e70 e130 e90 | omega) (show 0 ≤ v155.toInt from by first | exact e156.1 | omega) (show v155.toInt ≤ 1 from by first | exact e156.2 | omega) (show FrB 0 na ma na148 ma124 from hfb) (show FrW (pf 26).toInt wa wa125 from hfw) (show NdF (tf 6).toInt na148 x31_1 43 (pf 11) from ⟨by first | with_reducible rfl | with_reducible assumption | omega, hf_14_x31_1, hf_15_x31_1, ⟨by first | with_reducible rfl | with_reducible assumption | omega, by first | with_reducible rfl | with_reducible assumption | omega⟩, hf_21_x31_1⟩) (show ZfK ta (tf 6).toInt na148 ma124 (na148 17) x31_1 v68 (x31_1.toInt + 1) (pf153 13).toInt (3 * (bp ta (pf153 11) - bp ta (pf 11)) - 3 * v155.toInt) 130 from ⟨_, hf_17_x31_1, Or.inr (RwV.le hrw_v68 (by first | with_reducible rfl | with_reducible assumption | omega) (by first | with_reducible rfl | with_reducible assumption | omega) (by first | with_reducible rfl | with_reducible assumption | omega) (by first | with_reducible rfl | with_reducible assumption | omega))⟩) (show RzG ta (tf 6).toInt na148 ma124 (pf 24) (pf 25) 0 (pf 13).toInt (3 * bp ta (pf 11)) 200 from (RzV.le (rz_eq hzg (by first | with_reducible rfl | with_reducible assumption | omega) (by first | with_reducible rfl | with_reducible assumption | omega)) (by first | with_reducible rfl | with_reducible assumption | omega) (by first | with_reducible rfl | with_reducible assumption | omega) (by first | with_reducible rfl | with_reducible assumption | omega) (by first | with_reducible rfl | with_reducible assumption | omega))) (show FsI (tf 6).toInt (pf153 13).toInt na148 from (FsI.le hfs (by first | with_reducible rfl | with_reducible assumption | omega))) (show 2 * ((tf 6).toInt - (pf153 11).toInt) + v155.toInt < (n_31 : Int) from by first | exact oz_706ac834a3 hm e156.1 e157 k31_12 e53 e71 e86 e128 e85.1 | omega) hw (lv_sub hl [3, 4, 1, 0] rfl)
  refine lv_aload_n S.x S.b d_Mpg_enumeration_0 rfl (lv_at hl 0 rfl) ?_
  refine lv_bipush (v := 43) S.x S.b d_Mpg_enumeration_1 (by decide) ?_
  refine lv_aload_n S.x S.b d_Mpg_enumeration_3 rfl (lv_at hl 0 rfl) ?_
  refine px_get S k_Mpg hT hw 0 0 11 (v := .int (pf 11)) rfl rfl rfl (by decide) m9_235 d_Mpg_enumeration_4 ?_
  first | refine px_calli (pr := []) (px_runV (As := [.int 43, .int (pf 11)]) (rest := []) S (c_mp_make l D cs h r g tf ta wa cf ca ef ea xf xa pf na ma 43 (pf 11)  (show 0 ≤ (pf 13).toInt from g4) (show (pf 13).toInt < 2100 from (oz_1fa6c9b1b7 g5 g9 g2)) _) hT (pr := []) (pcs := [wdP cs h r g tf ta pf na ma wa cf ca ef ea xf xa]) hw px_X.tt (px_recv hT hw 0 0 rfl rfl rfl) m11_209 m11_206 m11_208 ms_8_12 m1_21 q_Mpg_make ⟨show 0 + 1 ≤ (8 * 61 + 24) from by first | with_reducible rfl | with_reducible assumption | omega, show 8 + (3 + 11) + 0 ≤ (220 * 61 + 1120) from by first | with_reducible rfl | with_reducible assumption | omega⟩ hl.1 rfl (Nat.le_of_ble_eq_true rfl) d_Mpg_enumeration_7 ⟨Nat.le_of_ble_eq_true rfl, Nat.le_of_ble_eq_true rfl⟩) hw hA (fun v172 p171 H locs hp171 hw => ?_) | refine px_calli (pr := []) (px_runV (As := [.int 43, .int (pf 11)]) (rest := []) S (c_mp_make l D cs h r g tf ta wa cf ca ef ea xf xa pf na ma 43 (pf 11)  (show 0 ≤ (pf 13).toInt from by first | exact g4 | omega) (show (pf 13).toInt < 2100 from by first | exact oz_1fa6c9b1b7 g5 g9 g2 | omega) _) hT (pr := []) (pcs := [wdP cs h r g tf ta pf na ma wa cf ca ef ea xf xa]) hw px_X.tt (px_recv hT hw 0 0 rfl rfl rfl) m11_209 m11_206 m11_208 ms_8_12 m1_21 q_Mpg_make ⟨show 0 + 1 ≤ (8 * 61 + 24) from by first | with_reducible rfl | with_reducible assumption | omega, show 8 + (3 + 11) + 0 ≤ (220 * 61 + 1120) from by first | with_reducible rfl | with_reducible assumption | omega⟩ hl.1 rfl (Nat.le_of_ble_eq_true rfl) d_Mpg_enumeration_7 ⟨Nat.le_of_ble_eq_true rfl, Nat.le_of_ble_eq_true rfl⟩) hw hA (fun v172 p171 H locs hp171 hw => ?_)
  obtain ⟨pf168, na169, ma170, rfl, e173, e174, e175, e176, e177, e178, e179, e180⟩ := hp171
  have e173 : v172.toInt = (pf 13).toInt := e173
  have e174 : (pf168 13).toInt = (pf 13).toInt + 1 := e174
  have e175 : (pf168 11).toInt = (pf 11).toInt := e175
  have e176 : (pf168 12).toInt = (pf 12).toInt := e176
  have e177 : (pf168 24).toInt = (pf 24).toInt := e177
  have e178 : (pf168 25).toInt = (pf 25).toInt := e178
  have e179 : (pf168 26).toInt = (pf 26).toInt := e179
  have e180 : MkN na ma na169 ma170 v172 (43 : Int32) (pf 11) := e180
  obtain ⟨qb1811, qb1812, qb1813, qb1814⟩ := tk_eq (ta := ta) (x := (pf168 11)) (y := (pf 11)) (by first | with_reducible rfl | with_reducible assumption | omega)
  have hmk_v172 := e180
  have hfm_v172 := MkN.frb (b := v172.toInt) hmk_v172 (by first | with_reducible rfl | with_reducible assumption | omega) (by first | with_reducible rfl | with_reducible assumption | omega)
  have hzg := hzg.ag fg_ok (FrB.ag hfm_v172 (by first | with_reducible rfl | with_reducible assumption | omega))
  have hfs := FsI.mk hfs hmk_v172 (by first | with_reducible rfl | with_reducible assumption | omega) (by first | with_reducible rfl | with_reducible assumption | omega) (by first | with_reducible rfl | with_reducible assumption | omega) (by first | with_reducible rfl | with_reducible assumption | omega)
  have hfb := hfb.tr hfm_v172 (by first | with_reducible rfl | with_reducible assumption | omega)
  have hf_14_v172 := hmk_v172.2.1 (by decide) (by decide)
  have hf_15_v172 := hmk_v172.2.2.1
  have hf_17_v172 := hmk_v172.2.2.2.2.1
  have hf_21_v172 := hmk_v172.2.2.2.2.2.2.2.2.1
  clear hmk_v172 hfm_v172
  have lv172 := Int32.le_toInt v172
  have uv172 := Int32.toInt_lt v172
  refine lv_istore_n (lv' := [(1, .int v172), (0, .ref h)]) S.x S.b d_Mpg_enumeration_10 rfl hl (by decide) rfl (fun ls hl => ?_)
  refine lv_aload_n S.x S.b d_Mpg_enumeration_11 rfl (lv_at hl 1 rfl) ?_
  refine lv_dup S.x S.b d_Mpg_enumeration_12 rfl ?_
  refine px_get S k_Mpg hT hw 0 0 11 (v := .int (pf168 11)) rfl rfl rfl (by decide) m9_235 d_Mpg_enumeration_13 ?_
  refine lv_iconst (v := 1) S.x S.b d_Mpg_enumeration_16 (by decide) ?_
  refine lv_iadd S.x S.b d_Mpg_enumeration_17 ?_
  have lr182 := Int32.le_toInt (pf168 11)
  have ur182 := Int32.toInt_lt (pf168 11)
  refine lv_topi (fun z183 ez183 => ?_)
  have tz183 : z183.toInt = ((pf168 11).toInt + (1 : Int) + 2147483648) % 4294967296 - 2147483648 := by rw [ez183]; exact i_add (pf168 11) 1
  have lz183 := Int32.le_toInt z183
  have uz183 := Int32.toInt_lt z183
  try replace tz183 : z183.toInt = (pf168 11).toInt + (1 : Int) := by omega
  have hnx17 := tk_n htk (x := (pf168 11)) (y := z183) (by first | with_reducible rfl | with_reducible assumption | omega) (by first | with_reducible rfl | with_reducible assumption | omega) (by first | with_reducible rfl | with_reducible assumption | omega)
  refine px_put S k_Mpg hT hw 0 0 11 rfl rfl (by decide) m9_235 rfl rfl rfl (Nat.le_of_ble_eq_true rfl) d_Mpg_enumeration_18 (w' := wdP cs h r g tf ta (upd pf168 11 z183) na169 ma170 wa cf ca ef ea xf xa) (ps' := [wdP cs h r g tf ta (upd pf168 11 z183) na169 ma170 wa cf ca ef ea xf xa]) rfl rfl (fun H locs hw => ?_)
  refine lv_aload_n S.x S.b d_Mpg_enumeration_21 rfl (lv_at hl 1 rfl) ?_
  obtain ⟨sk184, hRsk184, st185, sb186, hSsk184⟩ := oP_lit hP (k := 91) (tx := "{") (n := 1) (List.mem_of_getElem? (i := 37) rfl)
  refine va_ldcS S.x S.b S.own hRsk184 d_Mpg_enumeration_22 ?_
  first | refine th_callv (ps0 := [wdP cs h r g tf ta pf na ma wa cf ca ef ea xf xa]) (pr := []) (pcs := [wdP cs h r g tf ta (upd pf168 11 z183) na169 ma170 wa cf ca ef ea xf xa]) (As := [.ref sk184]) (rest := []) (c_mp_opensMark l D cs sk184 1 h r g tf ta na169 ma170 wa cf ca ef ea xf xa (upd pf168 11 z183)   (show 0 ≤ z183.toInt from (oz_9bc226aaf4 tz183 e175 g0)) (show z183.toInt < (tf 6).toInt from (oz_93bebfa6cb g9 tz183 e175)) (show (tf 6).toInt ≤ 2049 from g2) (show 0 ≤ (pf168 12).toInt from (oz_d68b2b83bb e176 g3)) (show (pf168 12).toInt ≤ 60 from (oz_739ed0f543 e176 g3)) (show 1 ≤ 100 from by first | decide | omega) hlf htk) S hT hw (oX_call (P := (fun A U H => (oN A U H) ∧ (oP A g U H) ∧ (StS A sk184 1 U H))) (pr := []) (oG_and oG_N (oG_and oG_P oG_Q)) hw hA ⟨hN, hP, ⟨_, _, hSsk184⟩⟩) (px_recv hT hw 0 0 rfl rfl rfl) m11_213 m11_210 m11_212 ms_8_13 m1_21 q_Mpg_opensMark ⟨show 8 + 1 ≤ (8 * 61 + 24) from by first | with_reducible rfl | with_reducible assumption | omega, show 8 + (2 + 11) + 240 ≤ (220 * 61 + 1120) from by first | with_reducible rfl | with_reducible assumption | omega⟩ hl.1 rfl (Nat.le_of_ble_eq_true rfl) d_Mpg_enumeration_24 ⟨Nat.le_of_ble_eq_true rfl, Nat.le_of_ble_eq_true rfl⟩ hne hlk hA hAe (fun o t h => Or.inr h) ?_ (fun p189 H locs hp189 hw => ?_) | refine th_callv (ps0 := [wdP cs h r g tf ta pf na ma wa cf ca ef ea xf xa]) (pr := []) (pcs := [wdP cs h r g tf ta (upd pf168 11 z183) na169 ma170 wa cf ca ef ea xf xa]) (As := [.ref sk184]) (rest := []) (c_mp_opensMark l D cs sk184 1 h r g tf ta na169 ma170 wa cf ca ef ea xf xa (upd pf168 11 z183)   (show 0 ≤ z183.toInt from by first | exact oz_9bc226aaf4 tz183 e175 g0 | omega) (show z183.toInt < (tf 6).toInt from by first | exact oz_93bebfa6cb g9 tz183 e175 | omega) (show (tf 6).toInt ≤ 2049 from by first | exact g2 | omega) (show 0 ≤ (pf168 12).toInt from by first | exact oz_d68b2b83bb e176 g3 | omega) (show (pf168 12).toInt ≤ 60 from by first | exact oz_739ed0f543 e176 g3 | omega) (show 1 ≤ 100 from by first | decide | omega) hlf htk) S hT hw (oX_call (P := (fun A U H => (oN A U H) ∧ (oP A g U H) ∧ (StS A sk184 1 U H))) (pr := []) (oG_and oG_N (oG_and oG_P oG_Q)) hw hA ⟨hN, hP, ⟨_, _, hSsk184⟩⟩) (px_recv hT hw 0 0 rfl rfl rfl) m11_213 m11_210 m11_212 ms_8_13 m1_21 q_Mpg_opensMark ⟨show 8 + 1 ≤ (8 * 61 + 24) from by first | with_reducible rfl | with_reducible assumption | omega, show 8 + (2 + 11) + 240 ≤ (220 * 61 + 1120) from by first | with_reducible rfl | with_reducible assumption | omega⟩ hl.1 rfl (Nat.le_of_ble_eq_true rfl) d_Mpg_enumeration_24 ⟨Nat.le_of_ble_eq_true rfl, Nat.le_of_ble_eq_true rfl⟩ hne hlk hA hAe (fun o t h => Or.inr h) ?_ (fun p189 H locs hp189 hw => ?_)
  · exact fun p1 H1 locs1 hp hw => by obtain ⟨pq1, pq2, pq3, pq4, rfl, hq1, hq2⟩ := hp; exact ⟨_, ⟨pq1, pq2, pq3, pq4, rfl, hq1, hq2⟩, hw⟩
  obtain ⟨pf188, rfl, e191, e192, e193, e194, e195, e196, e197, e198, e199, e200⟩ := hp189
  have e191 : (pf188 11).toInt = z183.toInt + 1 := e191
  have e192 : (pf188 11).toInt < (tf 6).toInt := e192
  have e193 : bp ta z183 + sz ta z183 ≤ bp ta (pf188 11) := e193
  have e194 : 1 ≤ sz ta z183 := e194
  have e195 : (pf188 12).toInt = (pf168 12).toInt + 1 := e195
  have e196 : (pf168 12).toInt < 60 := e196
  have e197 : (pf188 13).toInt = (pf168 13).toInt := e197
  have e198 : (pf188 24).toInt = (pf168 24).toInt := e198
  have e199 : (pf188 25).toInt = (pf168 25).toInt := e199
  have e200 : (pf188 26).toInt = (pf168 26).toInt := e200
  refine lv_iconst (v := (-1)) S.x S.b d_Mpg_enumeration_27 (by decide) ?_
  refine lv_istore_n (lv' := [(2, .int (-1)), (1, .int v172), (0, .ref h)]) S.x S.b d_Mpg_enumeration_28 rfl hl (by decide) rfl (fun ls hl => ?_)
  refine lv_iconst (v := 1) S.x S.b d_Mpg_enumeration_29 (by decide) ?_
  refine lv_istore_n (lv' := [(3, .int 1), (2, .int (-1)), (1, .int v172), (0, .ref h)]) S.x S.b d_Mpg_enumeration_30 rfl hl (by decide) rfl (fun ls hl => ?_)
  first | exact J31 ((2 * ((tf 6).toInt - (pf188 11).toInt) + (1 : Int)).toNat + 1) pf188 na169 ma170 wa v172 (-1) (1 : Int32) _ _ ls (show (pf188 12).toInt = 1 from (oz_43d0241111 e195 e176 g3)) (show (pf188 26).toInt = 0 from (oz_bfc0cf0d20 e200 e179 g6)) (show (pf188 24).toInt = (pf 24).toInt from (oz_1687f4cc65 e177 e198)) (show (pf188 25).toInt = (pf 25).toInt from (oz_1687f4cc65 e178 e199)) (show (pf 11).toInt + 2 ≤ (pf188 11).toInt from (oz_5fd47446d9 e175 e191 tz183)) (show (pf188 11).toInt < (tf 6).toInt from e192) (show v172.toInt = (pf 13).toInt from e173) (show v172.toInt < (pf188 13).toInt from (oz_c94e31fc97 e173 e197 e174)) (show (pf188 13).toInt - (pf 13).toInt ≤ (pf188 11).toInt - (pf 11).toInt from (oz_6744965aff e174 e175 e191 e197 tz183)) (show bp ta (pf 11) + 2 ≤ bp ta (pf188 11) from (oz_08bb915ce6 qb1811 e193 hnx17.1 e194 hnx17.2)) (show (-1 : Int) = -1 ∨ v172.toInt + 1 ≤ (-1 : Int) from by first | with_reducible rfl | with_reducible assumption | omega) (show (-1 : Int) < (pf188 13).toInt from (oz_7b131bab08 e197 e174 g4)) (show 0 ≤ (1 : Int) from by first | decide | omega) (show (1 : Int) ≤ 1 from by first | decide | omega) (show FrB 0 na ma na169 ma170 from hfb) (show FrW (pf 26).toInt wa wa from hfw) (show NdF (tf 6).toInt na169 v172 43 (pf 11) from ⟨by first | with_reducible rfl | with_reducible assumption | omega, hf_14_v172, hf_15_v172, ⟨by first | with_reducible rfl | with_reducible assumption | omega, by first | with_reducible rfl | with_reducible assumption | omega⟩, hf_21_v172⟩) (show ZfK ta (tf 6).toInt na169 ma170 (na169 17) v172 (-1) (v172.toInt + 1) (pf188 13).toInt (3 * (bp ta (pf188 11) - bp ta (pf 11)) - 3 * (1 : Int)) 130 from ⟨_, hf_17_v172, Or.inl ⟨by decide, by decide, by first | with_reducible rfl | with_reducible assumption | omega⟩⟩) (show RzG ta (tf 6).toInt na169 ma170 (pf 24) (pf 25) 0 (pf 13).toInt (3 * bp ta (pf 11)) 200 from (RzV.le (rz_eq hzg (by first | with_reducible rfl | with_reducible assumption | omega) (by first | with_reducible rfl | with_reducible assumption | omega)) (by first | with_reducible rfl | with_reducible assumption | omega) (by first | with_reducible rfl | with_reducible assumption | omega) (by first | with_reducible rfl | with_reducible assumption | omega) (by first | with_reducible rfl | with_reducible assumption | omega))) (show FsI (tf 6).toInt (pf188 13).toInt na169 from (FsI.le hfs (by first | with_reducible rfl | with_reducible assumption | omega))) (show 2 * ((tf 6).toInt - (pf188 11).toInt) + (1 : Int) < ((((2 * ((tf 6).toInt - (pf188 11).toInt) + (1 : Int)).toNat + 1 : Nat) : Int) : Int) from oz_natlt) hw (lv_sub hl [3, 2, 1, 0] rfl) | exact J31 ((2 * ((tf 6).toInt - (pf188 11).toInt) + (1 : Int)).toNat + 1) pf188 na169 ma170 wa v172 (-1) (1 : Int32) _ _ ls (show (pf188 12).toInt = 1 from by first | exact oz_43d0241111 e195 e176 g3 | omega) (show (pf188 26).toInt = 0 from by first | exact oz_bfc0cf0d20 e200 e179 g6 | omega) (show (pf188 24).toInt = (pf 24).toInt from by first | exact oz_1687f4cc65 e177 e198 | omega) (show (pf188 25).toInt = (pf 25).toInt from by first | exact oz_1687f4cc65 e178 e199 | omega) (show (pf 11).toInt + 2 ≤ (pf188 11).toInt from by first | exact oz_5fd47446d9 e175 e191 tz183 | omega) (show (pf188 11).toInt < (tf 6).toInt from by first | exact e192 | omega) (show v172.toInt = (pf 13).toInt from by first | exact e173 | omega) (show v172.toInt < (pf188 13).toInt from by first | exact oz_c94e31fc97 e173 e197 e174 | omega) (show (pf188 13).toInt - (pf 13).toInt ≤ (pf188 11).toInt - (pf 11).toInt from by first | exact oz_6744965aff e174 e175 e191 e197 tz183 | omega) (show bp ta (pf 11) + 2 ≤ bp ta (pf188 11) from by first | exact oz_08bb915ce6 qb1811 e193 hnx17.1 e194 hnx17.2 | omega) (show (-1 : Int) = -1 ∨ v172.toInt + 1 ≤ (-1 : Int) from by first | with_reducible rfl | with_reducible assumption | omega) (show (-1 : Int) < (pf188 13).toInt from by first | exact oz_7b131bab08 e197 e174 g4 | omega) (show 0 ≤ (1 : Int) from by first | decide | omega) (show (1 : Int) ≤ 1 from by first | decide | omega) (show FrB 0 na ma na169 ma170 from hfb) (show FrW (pf 26).toInt wa wa from hfw) (show NdF (tf 6).toInt na169 v172 43 (pf 11) from ⟨by first | with_reducible rfl | with_reducible assumption | omega, hf_14_v172, hf_15_v172, ⟨by first | with_reducible rfl | with_reducible assumption | omega, by first | with_reducible rfl | with_reducible assumption | omega⟩, hf_21_v172⟩) (show ZfK ta (tf 6).toInt na169 ma170 (na169 17) v172 (-1) (v172.toInt + 1) (pf188 13).toInt (3 * (bp ta (pf188 11) - bp ta (pf 11)) - 3 * (1 : Int)) 130 from ⟨_, hf_17_v172, Or.inl ⟨by decide, by decide, by first | with_reducible rfl | with_reducible assumption | omega⟩⟩) (show RzG ta (tf 6).toInt na169 ma170 (pf 24) (pf 25) 0 (pf 13).toInt (3 * bp ta (pf 11)) 200 from (RzV.le (rz_eq hzg (by first | with_reducible rfl | with_reducible assumption | omega) (by first | with_reducible rfl | with_reducible assumption | omega)) (by first | with_reducible rfl | with_reducible assumption | omega) (by first | with_reducible rfl | with_reducible assumption | omega) (by first | with_reducible rfl | with_reducible assumption | omega) (by first | with_reducible rfl | with_reducible assumption | omega))) (show FsI (tf 6).toInt (pf188 13).toInt na169 from (FsI.le hfs (by first | with_reducible rfl | with_reducible assumption | omega))) (show 2 * ((tf 6).toInt - (pf188 11).toInt) + (1 : Int) < ((((2 * ((tf 6).toInt - (pf188 11).toInt) + (1 : Int)).toNat + 1 : Nat) : Int) : Int) from by first | exact oz_natlt | omega) hw (lv_sub hl [3, 2, 1, 0] rfl)
