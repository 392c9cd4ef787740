theorem oz_198468a842 {n0 : Nat}  : 1 + 1 ≤ (8 * n0 + 24) := by omega
theorem oz_51fc6077e3 {n0 : Nat}  : 8 + (1 + 11) + 40 ≤ (220 * n0 + 1120) := by omega
theorem oz_9cd0e67005 {n0 : Nat}  : 6 + 1 ≤ (8 * n0 + 24) := by omega
theorem oz_15a4c3c561 {n0 : Nat}  : 8 + (2 + 11) + 100 ≤ (220 * n0 + 1120) := by omega
theorem oz_9bf819bc7f {n0 : Nat}  : 7 + 1 ≤ (8 * n0 + 24) := by omega
theorem oz_16a7388fbd {n0 : Nat}  : 8 + (1 + 11) + 150 ≤ (220 * n0 + 1120) := by omega
theorem oz_87273e4cc2 {n0 : Nat}  : 0 + 1 ≤ (8 * n0 + 24) := by omega
theorem oz_03f22f7e11 {n0 : Nat}  : 8 + (3 + 11) + 0 ≤ (220 * n0 + 1120) := by omega
theorem oz_6773c8d520 {a0 a1 a2 a3 : Int} (h0 : a0 = a1) (h1 : a1 = a2 + 1) (h2 : a2 = a3 + (1 : Int)) (h3 : 0 ≤ a3) : 0 ≤ a0 := by omega
theorem oz_fb0a20de2b {n0 : Nat}  : 3 + 1 ≤ (8 * n0 + 24) := by omega
theorem oz_b86bb2acd9 {n0 : Nat}  : 8 + (2 + 11) + 120 ≤ (220 * n0 + 1120) := by omega
theorem oz_d7a4949520 {a0 a1 a2 a3 a4 : Int} (h0 : a0 + a2 ≤ a3) (h1 : a1 = a4) (h2 : 1 ≤ a2) (h3 : a3 + 1 ≤ a4) : a0 + 2 ≤ a1 := by omega
theorem oz_3d27b98b25 {a0 a1 a2 a3 a4 : Int} (h0 : a0 = a1 + 1) (h1 : a1 = a2) (h2 : 0 ≤ a3) (h3 : a4 = a3 + (1 : Int)) (h4 : a2 = a4 + 1) : 0 ≤ a0 := by omega
theorem oz_e5933a4a2c {a0 a1 a2 a3 : Int} (h0 : a0 = a1 + 1) (h1 : a1 = a2) (h2 : a2 = a3) (h3 : 0 ≤ a3) : 1 ≤ a0 := by omega
theorem oz_c2e63f36a0 {n0 : Nat}  : 8 + 1 ≤ (8 * n0 + 24) := by omega
theorem oz_9912658ac4 {n0 : Nat}  : 8 + (2 + 11) + 280 ≤ (220 * n0 + 1120) := by omega
theorem oz_95ed43b5eb {a0 a1 a2 a3 a4 a5 : Int} (h0 : a2 = a0 + (1 : Int)) (h1 : a1 = a3 + 1) (h2 : a4 = a2 + 1) (h3 : a3 = a5 + 1) (h4 : a5 = a4) : a0 + 1 ≤ a1 := by omega
theorem oz_68556fc0a8 {a0 a1 a2 a3 a4 : Int} (h0 : a2 = a0) (h1 : a1 = a3) (h2 : a4 = a2 + 1) (h3 : a3 = a4) : a0 + 1 ≤ a1 := by omega
theorem oz_853f55781e {a0 a1 a2 a3 a4 a5 a6 a7 a8 a9 a10 : Int} (h0 : a4 = a3 + (1 : Int)) (h1 : a5 = a1) (h2 : a2 = a6 + 1) (h3 : a0 = a7) (h4 : a8 = a4 + 1) (h5 : a9 = a5 + 1) (h6 : a6 = a10 + 1) (h7 : a7 = a9) (h8 : a10 = a8) : a0 - a1 ≤ a2 - a3 := by omega
theorem oz_49b4adb997 {a0 a1 a2 a3 a4 a5 a6 a7 : Int} (h0 : a0 + a2 ≤ a3) (h1 : a4 + 1 ≤ a1) (h2 : 1 ≤ a2) (h3 : a3 + 1 ≤ a5) (h4 : a6 + a7 ≤ a4) (h5 : a6 = a5) (h6 : 1 ≤ a7) : a0 + 1 ≤ a1 := by omega
theorem oz_a3348d681e {a0 a1 a2 a3 a4 : Int} (h0 : a2 = a1) (h1 : a0 = a3 - 1) (h2 : a4 = a2) (h3 : a3 = a4 + 1) : a0 = a1 := by omega
theorem oz_806f2fa6e8 {a0 a1 a2 a3 a4 a5 a6 a7 : Int} (h0 : a0 + a2 ≤ a3) (h1 : a4 + 1 ≤ a1) (h2 : 1 ≤ a2) (h3 : a3 + 1 ≤ a5) (h4 : a6 + a7 ≤ a4) (h5 : a6 = a5) (h6 : 1 ≤ a7) : a0 + 2 ≤ a1 := by omega
theorem oz_443389b263 {a0 : Int} (h0 : a0 = 1) : a0 ≤ 60 := by omega
theorem oz_ec982f3f0b {a0 a1 a2 a3 a4 a5 a6 a7 a8 a9 : Int} (h0 : a0 = a1) (h1 : a1 = a2) (h2 : a2 = a3) (h3 : a3 < a4) (h4 : a4 ≤ a5 + 10) (h5 : a5 + 2 ≤ a6) (h6 : a7 = a6 + 1) (h7 : a8 ≤ 2049) (h8 : a9 = a7 + 1) (h9 : a9 < a8) : a0 < 2100 := by omega
theorem oz_e70fca6503 {a0 a1 a2 a3 a4 : Int} (h0 : a0 + 2 ≤ a2) (h1 : a1 = a3) (h2 : a4 = a2 + 1) (h3 : a3 = a4 + 1) : a0 + 1 ≤ a1 := by omega
theorem oz_64d5401b2c {a0 a1 a2 a3 a4 a5 : Int} (h0 : a2 = a0) (h1 : a1 = a3) (h2 : a2 < a4) (h3 : a5 = a4) (h4 : a3 = a5) : a0 ≤ a1 := by omega
theorem oz_34b08d2b77 {a0 a1 a2 a3 a4 a5 a6 a7 a8 a9 : Int} (h0 : a4 - a1 ≤ a5 - a3) (h1 : a2 = a6) (h2 : a0 = a7) (h3 : a8 = a5 + 1) (h4 : a9 = a4) (h5 : a6 = a8 + 1) (h6 : a7 = a9) : a0 - a1 ≤ a2 - a3 := by omega
theorem oz_5d911a48a2 {a0 a1 a2 a3 a4 : Int} (h0 : a0 + 2 ≤ a2) (h1 : a1 = a3) (h2 : a2 + 1 ≤ a4) (h3 : a4 + 1 ≤ a3) : a0 + 1 ≤ a1 := by omega
theorem oz_f68b379cbf {a0 a1 a2 a3 : Int} (h0 : a0 = a1) (h1 : a1 = a2) (h2 : a2 = a3 - 1) (h3 : a3 = 1) : a0 = 0 := by omega
theorem oz_5e358525a3 {a0 a1 a2 a3 : Int} (h0 : a0 = a1) (h1 : a1 = a2) (h2 : a2 = a3) (h3 : a3 = 0) : a0 = 0 := by omega
theorem oz_b23efdd26a {a0 a1 a2 : Int} (h0 : a0 = a1) (h1 : a1 = a2) (h2 : 0 ≤ a2) : -1 ≤ a0 := by omega
theorem oz_0a92d61c1d {a0 a1 a2 a3 a4 a5 : Int} (h0 : a1 = a2) (h1 : a0 = a3) (h2 : a3 < a4) (h3 : a2 = a5) (h4 : a5 = a4) : a0 < a1 := by omega
theorem oz_7b8a9e084a {a0 a1 a2 a3 a4 a5 a6 : Int} (h0 : a0 = a1) (h1 : a1 - a2 ≤ a3 - a4) (h2 : a2 ≤ a4 + 10) (h3 : a5 = a3 + 1) (h4 : a6 ≤ 2049) (h5 : a5 < a6) : a0 < 2100 := by omega
theorem oz_951c320703 {a0 a1 a2 a3 : Int} (h0 : a0 = a1) (h1 : a1 = a2 + 1) (h2 : a3 + 2 ≤ a2) (h3 : 0 ≤ a3) : 0 ≤ a0 := by omega
theorem oz_779f263daf {a0 a1 a2 a3 a4 a5 : Int} (h0 : a0 = a1) (h1 : 0 ≤ a1) (h2 : a1 ≤ a2 + 10) (h3 : a2 + 2 ≤ a3) (h4 : a4 = a3 + 1) (h5 : a5 ≤ 2049) (h6 : a4 < a5) : 0 ≤ a0 ∧ a0 < ((2100 : Nat) : Int) := by omega
theorem oz_fa92019150 {a0 a1 a2 a3 a4 a5 a6 : Int} (h0 : a0 < a1) (h1 : a1 - a2 ≤ a3 - a4) (h2 : a2 ≤ a4 + 10) (h3 : a5 = a3 + 1) (h4 : a6 ≤ 2049) (h5 : a5 < a6) : a0 < 2100 := by omega
theorem oz_b1ffee609c {a0 a1 a2 a3 a4 a5 : Int} (h0 : a0 = a1 + a2) (h1 : a1 = a3) (h2 : 0 ≤ a2) (h3 : 0 ≤ a4) (h4 : a4 + 2 ≤ a5) (h5 : a3 = a5 + 1) : 0 ≤ a0 := by omega
theorem oz_b0dd40d105 {a0 a1 a2 a3 a4 : Int} (h0 : a0 = a1) (h1 : a1 = a2) (h2 : a2 = a3) (h3 : a3 = a4) (h4 : a4 = 1) : a0 = 1 := by omega
theorem oz_79fbce337c {a0 a1 a2 a3 a4 : Int} (h0 : a0 = a1) (h1 : a1 = a2) (h2 : a2 = a3) (h3 : a3 = a4) (h4 : a4 = 0) : a0 = 0 := by omega
theorem oz_9accb9079f {a0 a1 a2 a3 a4 a5 a6 a7 : Int} (h0 : a0 + 2 ≤ a2) (h1 : a1 = a3 + a4) (h2 : a5 = a2 + 1) (h3 : a3 = a6 + a7) (h4 : 0 ≤ a4) (h5 : a6 = a5) (h6 : 0 ≤ a7) : a0 + 2 ≤ a1 := by omega
theorem oz_eca898f282 {a0 a1 a2 a3 a4 a5 : Int} (h0 : a0 < a2) (h1 : a1 = a3) (h2 : a4 = a2) (h3 : a3 = a5) (h4 : a5 = a4 + 1) : a0 < a1 := by omega
theorem oz_5ba3dd379f {a0 a1 a2 a3 a4 a5 a6 a7 a8 a9 a10 a11 a12 a13 : Int} (h0 : a4 - a1 ≤ a5 - a3) (h1 : a2 = a6 + a7) (h2 : a0 = a8) (h3 : a9 = a5 + 1) (h4 : a10 = a4) (h5 : a6 = a11 + a12) (h6 : a8 = a13) (h7 : 0 ≤ a7) (h8 : a13 = a10 + 1) (h9 : a11 = a9) (h10 : 0 ≤ a12) : a0 - a1 ≤ a2 - a3 := by omega
theorem oz_f5dc7dbaba {a0 a1 a2 a3 a4 a5 a6 a7 : Int} (h0 : a0 + 2 ≤ a2) (h1 : a3 + a4 ≤ a1) (h2 : a2 + 1 ≤ a5) (h3 : a6 + a7 ≤ a3) (h4 : 0 ≤ a4) (h5 : a6 = a5) (h6 : 0 ≤ a7) : a0 + 2 ≤ a1 := by omega
theorem oz_01862000b2 {a0 a1 a2 a3 a4 : Int} (h0 : a0 = a2) (h1 : a1 = a3) (h2 : a4 = a2 + 1) (h3 : a3 = a4) : a0 < a1 := by omega
theorem oz_0a76174abd {a0 a1 a2 a4 a5 a6 a7 a8 a9 : Int} {n3 : Nat} (h0 : 2 * (a0 - a4) + a5 < ((n3 + 1 : Nat) : Int)) (h1 : 0 ≤ a2) (h2 : a1 = a6 + a2) (h3 : 0 ≤ a5) (h4 : a7 = a4 + 1) (h5 : a8 = a7) (h6 : a6 = a8 + a9) (h7 : 0 ≤ a9) : 2 * (a0 - a1) + a2 < (n3 : Int) := by omega
theorem oz_e2bb57d886 {a0 a1 a2 a3 : Int} (h0 : a0 = a1) (h1 : a1 = a2) (h2 : a2 = a3) (h3 : a3 = 1) : 0 ≤ a0 := by omega
theorem oz_9bdc265ae5 {a0 a1 a2 a3 : Int} (h0 : a0 = a1) (h1 : a1 = a2) (h2 : a2 = a3) (h3 : a3 = 1) : a0 ≤ 60 := by omega
theorem oz_ad3061ceaa {a0 a1 a2 a3 a4 a5 : Int} (h0 : a0 = a1) (h1 : a1 = a2 + 1) (h2 : a2 = a3) (h3 : a4 < a3) (h4 : 0 ≤ a5) (h5 : a4 = a5) : 0 ≤ a0 := by omega
theorem oz_e4b089fc76 {a0 a1 a2 a3 a4 a5 a6 a7 a8 a9 a10 : Int} (h0 : a1 = a2 + a3) (h1 : a0 = a4) (h2 : a4 = a5 + 1) (h3 : a2 = a6) (h4 : 0 ≤ a3) (h5 : a7 ≤ a8 + 10) (h6 : a9 - a7 ≤ a10 - a8) (h7 : a6 = a10 + 1) (h8 : a5 = a9) : a0 ≤ a1 + 10 := by omega
theorem oz_64b6d1b64d {a0 a1 a2 a3 : Int} (h0 : a0 = a1) (h1 : a1 = a2) (h2 : a2 = a3) (h3 : a3 = 0) : 0 ≤ a0 := by omega
theorem oz_91a3c55eb7 {a0 a1 a2 a3 a4 a5 a6 a7 : Int} (h0 : a1 = a2) (h1 : a0 = a3) (h2 : a2 = a4) (h3 : a3 = a5) (h4 : a4 = a6) (h5 : a5 = a7) (h6 : a6 = 1) (h7 : a7 = 0) : a0 ≤ a1 := by omega
theorem oz_f3b7cb1671 {a0 a1 a2 a3 a4 a5 a6 : Int} (h0 : a1 + 1 ≤ a0) (h1 : a1 = a2 + a3) (h2 : 0 ≤ a4) (h3 : a4 + 2 ≤ a5) (h4 : a6 = a5 + 1) (h5 : a2 = a6) (h6 : 0 ≤ a3) : 0 ≤ a0 := by omega
theorem oz_cbada833cc {a0 a1 a2 a3 a4 a5 : Int} (h0 : a0 = a1) (h1 : a1 = a2) (h2 : a2 = a3) (h3 : a3 = a4) (h4 : a4 = a5) (h5 : a5 = 1) : a0 = 1 := by omega
theorem oz_13e43d3d4c {a0 a1 a2 a3 a4 a5 : Int} (h0 : a0 = a1) (h1 : a1 = a2) (h2 : a2 = a3) (h3 : a3 = a4) (h4 : a4 = a5) (h5 : a5 = 0) : a0 = 0 := by omega
theorem oz_036f9dfa45 {a0 a1 a2 a3 a4 a5 a6 a7 a8 : Int} (h0 : a0 + 2 ≤ a2) (h1 : a1 = a3 + a4) (h2 : a5 = a2 + 1) (h3 : a6 + 1 ≤ a3) (h4 : 0 ≤ a4) (h5 : a7 = a5) (h6 : a6 = a7 + a8) (h7 : 0 ≤ a8) : a0 + 2 ≤ a1 := by omega
theorem oz_3306f37a38 {a0 a1 a2 a3 a4 a5 a6 : Int} (h0 : a0 < a2) (h1 : a1 = a3) (h2 : a4 = a2) (h3 : a5 + 1 ≤ a3) (h4 : a6 = a4 + 1) (h5 : a5 = a6) : a0 < a1 := by omega
theorem oz_b18aec998c {a0 a1 a2 a3 a4 a5 a6 a7 a8 a9 a10 a11 a12 a13 a14 a15 : Int} (h0 : a4 - a1 ≤ a5 - a3) (h1 : a2 = a6 + a7) (h2 : a0 = a8) (h3 : a9 = a5 + 1) (h4 : a10 = a4) (h5 : a8 - a11 ≤ a6 - a12) (h6 : 0 ≤ a7) (h7 : a13 = a10 + 1) (h8 : a14 = a9) (h9 : a12 = a14 + a15) (h10 : a11 = a13) (h11 : 0 ≤ a15) : a0 - a1 ≤ a2 - a3 := by omega
theorem oz_8300a8d446 {a0 a1 a2 a3 a4 a5 a6 a7 a8 : Int} (h0 : a0 + 2 ≤ a2) (h1 : a3 + a4 ≤ a1) (h2 : a2 + 1 ≤ a5) (h3 : a6 + 1 ≤ a3) (h4 : 0 ≤ a4) (h5 : a7 = a5) (h6 : a7 + a8 ≤ a6) (h7 : 0 ≤ a8) : a0 + 2 ≤ a1 := by omega
theorem oz_706ac834a3 {a0 a1 a2 a4 a5 a6 a7 a8 a9 a10 : Int} {n3 : Nat} (h0 : 2 * (a0 - a4) + a5 < ((n3 + 1 : Nat) : Int)) (h1 : 0 ≤ a2) (h2 : a1 = a6 + a2) (h3 : 0 ≤ a5) (h4 : a7 = a4 + 1) (h5 : a8 = a7) (h6 : a9 = a8 + a10) (h7 : a9 + 1 ≤ a6) (h8 : 0 ≤ a10) : 2 * (a0 - a1) + a2 < (n3 : Int) := by omega
theorem oz_d68b2b83bb {a0 a1 : Int} (h0 : a0 = a1) (h1 : a1 = 0) : 0 ≤ a0 := by omega
theorem oz_739ed0f543 {a0 a1 : Int} (h0 : a0 = a1) (h1 : a1 = 0) : a0 ≤ 60 := by omega
theorem oz_43d0241111 {a0 a1 a2 : Int} (h0 : a0 = a1 + 1) (h1 : a1 = a2) (h2 : a2 = 0) : a0 = 1 := by omega
theorem oz_5fd47446d9 {a0 a1 a2 a3 : Int} (h0 : a2 = a0) (h1 : a1 = a3 + 1) (h2 : a3 = a2 + (1 : Int)) : a0 + 2 ≤ a1 := by omega
theorem oz_08bb915ce6 {a0 a1 a2 a3 a4 a5 : Int} (h0 : a2 = a0) (h1 : a3 + a4 ≤ a1) (h2 : a2 + a5 ≤ a3) (h3 : 1 ≤ a4) (h4 : 1 ≤ a5) : a0 + 2 ≤ a1 := by omega
theorem m10_12 : Cond.fieldLink "HomeSystemModel$Program" 500 "HomeSystemModel$Program" "program" "I" ∈ AL := AL_10 (List.mem_of_getElem? (i := 12) rfl) rfl
theorem m10_13 : Cond.fieldLink "HomeSystemModel$Program" 503 "HomeSystemModel$Program" "programEnd" "I" ∈ AL := AL_10 (List.mem_of_getElem? (i := 13) rfl) rfl
theorem m12_78 : Cond.methodLink "HomeSystemModel$Program" 506 ⟨"HomeSystemModel$Program", "add", "(I)V"⟩ ∈ AL := AL_12 (List.mem_of_getElem? (i := 78) rfl) rfl
theorem m12_81 : Cond.code ⟨"HomeSystemModel$Program", "add", "(I)V"⟩ prog_16_method_57_code 2 (Option.none : Option Jvm.ClassFile.FieldType) ∈ AL := AL_12 (List.mem_of_getElem? (i := 81) rfl) rfl
theorem ms_10_5 : Cond.selects "HomeSystemModel$Program" ⟨"HomeSystemModel$Program", "add", "(I)V"⟩ ⟨"HomeSystemModel$Program", "add", "(I)V"⟩ ∈ AL := AL_p (q := (⟨"HomeSystemModel$Program", "add", "(I)V"⟩, 69)) (by unfold lw_privs; exact List.mem_append_right _ (List.mem_append_right _ (List.mem_append_right _ (List.mem_append_right _ (List.mem_append_right _ (List.mem_append_right _ (List.mem_append_right _ (List.mem_append_right _ (List.mem_append_right _ (List.mem_append_left _ (List.mem_of_getElem? (i := 5) rfl)))))))))))
theorem m12_80 : Cond.instanceMethod ⟨"HomeSystemModel$Program", "add", "(I)V"⟩ ∈ AL := AL_12 (List.mem_of_getElem? (i := 80) rfl) rfl
/-! THE PIECES of a text -/
def FP (ta : Nat → Nat → Int32) (c : Int) : FM := fun na ma _ n lo hi w => (lo ≤ n ∧ n < hi) ∧ (na 14 n).toInt = 42 ∧ NdT ta c na n 1 ∧ ((ma 22 n).toInt = 0 ∨ (ma 22 n).toInt = 1) ∧ 6 ≤ w
def FK (ta : Nat → Nat → Int32) (c : Int) : FM := fun na ma d n lo hi w => (lo ≤ n ∧ n < hi) ∧ (na 14 n).toInt = 44 ∧ NdT ta c na n 1 ∧ ∃ wa : Nat, Oz (Er ta c na ma d) (na 17 n).toInt (n + 1) hi wa ∧ wa + 6 ≤ w
def FG (ta : Nat → Nat → Int32) (c : Int) : FM := fun na ma d n lo hi w => (lo ≤ n ∧ n < hi) ∧
  (((na 14 n).toInt = 23 ∧ St ta c na ma d n lo hi w) ∨
   ((na 14 n).toInt = 41 ∧ NdT ta c na n 1 ∧ (0 ≤ (ma 22 n).toInt ∧ (ma 22 n).toInt ≤ 2) ∧ 24 ≤ w ∧ ∃ b m1 wp wb : Nat, (n < m1 ∧ m1 ≤ hi) ∧ Lz na (FP ta c na ma d) (na 17 n).toInt (n + 1) m1 wp ∧ (ma 18 n).toInt = (b : Int) ∧ (na 14 b).toInt = 20 ∧ St ta c na ma d b m1 hi wb ∧ wp + wb + 2 ≤ w) ∨
   ((na 14 n).toInt = 43 ∧ ∃ wr : Nat, Lz na (FK ta c na ma d) (na 17 n).toInt (n + 1) hi wr ∧ wr ≤ w))
section PC9
variable {ta : Nat → Nat → Int32} {c : Int}
theorem ndt_fr {na ma na' ma' : Nat → Nat → Int32} {lo hi n : Nat} {s : Int} (f : FrS na ma na' ma' lo hi n) (h : NdT ta c na n s) : NdT ta c na' n s := by
  unfold NdT at h ⊢; rw [f.2.1 15 (by decide) (by decide)]; exact h
theorem fp_ok : FamOk (FP ta c) := ⟨fun h => h.1, fun h f => ⟨h.1, by rw [f.2.1 14 (by decide) (by decide)]; exact h.2.1, ndt_fr f h.2.2.1, by rw [f.2.2 22]; exact h.2.2.2.1, h.2.2.2.2⟩, fun h _ b c d => ⟨by have := h.1; omega, h.2.1, h.2.2.1, h.2.2.2.1, by have := h.2.2.2.2; omega⟩⟩
theorem fk_ok : FamOk (FK ta c) := by
  refine ⟨fun h => h.1, fun h f => ?_, fun h a b c d => ?_⟩
  · obtain ⟨h0, h1, h2, wa, h3, h4⟩ := h
    refine ⟨h0, by rw [f.2.1 14 (by decide) (by decide)]; exact h1, ndt_fr f h2, wa, ?_, h4⟩
    rw [f.2.1 17 (by decide) (by decide)]
    exact h3.mono (Nat.le_refl _) (fun a v q => q.fr (f.sub (by omega) (Nat.le_refl _) (by omega) q.rng))
  · obtain ⟨h0, h1, h2, wa, h3, h4⟩ := h
    exact ⟨by omega, h1, h2, wa, h3.mono (Nat.le_refl _) (fun x v q => q.wid a (Nat.le_refl _) c (Nat.le_refl _)), by omega⟩
theorem fg_ok : FamOk (FG ta c) := by
  refine ⟨fun h => h.1, fun {na ma na' ma' d n lo hi w} h f => ?_, fun {na ma d d' n lo lo' hi hi' w w'} h a b cc dd => ?_⟩
  · obtain ⟨h0, h1⟩ := h
    have e21 : ∀ x : Nat, n + 1 ≤ x → x < hi → na' 21 x = na 21 x := fun x a1 a2 => (f.1 x (by omega) a2 (by omega)).1 21
    refine ⟨h0, ?_⟩
    rw [f.2.1 14 (by decide) (by decide), f.2.1 17 (by decide) (by decide), f.2.2 22, f.2.2 18]
    rcases h1 with ⟨g, g1⟩ | ⟨g, g1, g2, g3, b, m1, wp, wb, g0, g4, g5, g6, g7, g8⟩ | ⟨g, wr, g1, g2⟩
    · exact Or.inl ⟨g, g1.fr f⟩
    · have r := g7.rng
      refine Or.inr (Or.inl ⟨g, ndt_fr f g1, g2, g3, b, m1, wp, wb, g0, ?_, g5, ?_, g7.fr (f.sub (by omega) (Nat.le_refl _) (by omega) r), g8⟩)
      · exact g4.fr (fun x a1 a2 => e21 x a1 (by omega)) (fun x l h v a1 a2 a3 a4 q => fp_ok.fr q (f.sub (by omega) (by omega) (by omega) ⟨a3, a4⟩))
      · rw [(f.1 b (by omega) r.2 (by omega)).1 14]; exact g6
    · exact Or.inr (Or.inr ⟨g, wr, g1.fr e21 (fun x l h v a1 a2 a3 a4 q => fk_ok.fr q (f.sub (by omega) a2 (by omega) ⟨a3, a4⟩)), g2⟩)
  · obtain ⟨h0, h1⟩ := h
    refine ⟨by omega, ?_⟩
    rcases h1 with ⟨g, g1⟩ | ⟨g, g1, g2, g3, b', m1, wp, wb, g0, g4, g5, g6, g7, g8⟩ | ⟨g, wr, g1, g2⟩
    · exact Or.inl ⟨g, g1.wid a b cc dd⟩
    · exact Or.inr (Or.inl ⟨g, g1, g2, by omega, b', m1, wp, wb, by omega, g4.wid (P' := FP ta c na ma d') (fun x l l' h v hl q => fp_ok.wid q a hl (Nat.le_refl _) (Nat.le_refl _)) (Nat.le_refl _) (Nat.le_refl _) (Nat.le_refl _), g5, g6, g7.wid a (Nat.le_refl _) cc (Nat.le_refl _), by omega⟩)
    · exact Or.inr (Or.inr ⟨g, wr, g1.wid (P' := FK ta c na ma d') (fun x l l' h v hl q => fk_ok.wid q a hl (Nat.le_refl _) (Nat.le_refl _)) (Nat.le_refl _) cc (Nat.le_refl _), by omega⟩)
end PC9
abbrev VlP (ta : Nat → Nat → Int32) (c : Int) := VlV (FP ta c)
abbrev VlK (ta : Nat → Nat → Int32) (c : Int) := VlV (FK ta c)
abbrev VlG (ta : Nat → Nat → Int32) (c : Int) := VlV (FG ta c)
abbrev RwP (ta : Nat → Nat → Int32) (c : Int) := RwV (FP ta c)
abbrev RfP (ta : Nat → Nat → Int32) (c : Int) := RfV (FP ta c)
abbrev ZfP (ta : Nat → Nat → Int32) (c : Int) := ZfV (FP ta c)
abbrev ZfK (ta : Nat → Nat → Int32) (c : Int) := ZfV (FK ta c)
abbrev RzG (ta : Nat → Nat → Int32) (c : Int) := RzV (FG ta c)
theorem rz_eq {F : FM} {na ma : Nat → Nat → Int32} {k x k' x' : Int32} {lo hi W D : Int} (h : RzV F na ma k x lo hi W D) (e1 : k.toInt = k'.toInt) (e2 : x.toInt = x'.toInt) : RzV F na ma k' x' lo hi W D := by
  rw [← i_eq.mpr e1, ← i_eq.mpr e2]; exact h
section PB9
variable {ta : Nat → Nat → Int32} {c : Int} {na ma : Nat → Nat → Int32} {n t : Int32} {hi D : Int}
theorem vl_par {y : Int32} (g : NdF c na n 42 t) (hs : so ta t = 1) (hn : n.toInt + 1 ≤ hi) (e22 : ma 22 n.toNatClampNeg = y) (hy : y.toInt = 0 ∨ y.toInt = 1) (hD : 0 ≤ D) : VlP ta c na ma n n.toInt hi 6 D := by
  have hc := cl_nat g.1
  exact ⟨n.toNatClampNeg, hi.toNat, 0, 6, by omega, by omega, g.1, ⟨by omega, ndf_k g rfl, by unfold NdT; rw [g.2.2.1]; exact ⟨g.2.2.2.1.1, g.2.2.2.1.2, hs⟩, by rw [e22]; exact hy, Nat.le_refl _⟩, by omega, by omega, by rw [g.2.2.2.2]; decide⟩
theorem vl_con {a : Int32} {lo W : Int} (g : NdF c na n 44 t) (hs : so ta t = 1) (hn : n.toInt + 1 ≤ hi) (e17 : na 17 n.toNatClampNeg = a) (hD : 0 ≤ D) (h : OzV (FE ta c) na ma a lo hi W D) (hl : n.toInt + 1 ≤ lo) : VlK ta c na ma n n.toInt hi (W + 6) D := by
  have hc := cl_nat g.1
  obtain ⟨w, a1, a2⟩ := h.at fe_ok (l := n.toNatClampNeg + 1) (h' := hi.toNat) (by omega) (by omega)
  exact ⟨n.toNatClampNeg, hi.toNat, D.toNat, w + 6, by omega, by omega, g.1, ⟨by omega, ndf_k g rfl, by unfold NdT; rw [g.2.2.1]; exact ⟨g.2.2.2.1.1, g.2.2.2.1.2, hs⟩, w, by rw [e17]; exact a2, Nat.le_refl _⟩, by omega, by omega, by rw [g.2.2.2.2]; decide⟩
theorem vg_decl {lo W : Int} (h : VlS ta c na ma n lo hi W D) (e : na 14 n.toNatClampNeg = 23) : VlG ta c na ma n lo hi W D := by
  obtain ⟨l, hh, d, w, a1, a2, a3, a4, a5, a6, a7⟩ := h
  exact ⟨l, hh, d, w, a1, a2, a3, ⟨St.rng a4, Or.inl ⟨by rw [e]; rfl, a4⟩⟩, a5, a6, a7⟩
theorem vg_enum {x : Int32} {W : Int} (g : NdF c na n 43 t) (hn : n.toInt + 1 ≤ hi) (hD : 0 ≤ D) (h : RzV (FK ta c) na ma (na 17 n.toNatClampNeg) x (n.toInt + 1) hi W D) : VlG ta c na ma n n.toInt hi W D := by
  have hc := cl_nat g.1
  obtain ⟨w, a1, a2⟩ := h.at fk_ok (l := n.toNatClampNeg + 1) (h' := hi.toNat) (by omega) (by omega)
  exact ⟨n.toNatClampNeg, hi.toNat, D.toNat, w, by omega, by omega, g.1, ⟨by omega, Or.inr (Or.inr ⟨ndf_k g rfl, w, a2, Nat.le_refl _⟩)⟩, by omega, by omega, by rw [g.2.2.2.2]; decide⟩
theorem vg_fun {b x y : Int32} {l1 m1 l2 W W2 Wt : Int} (g : NdF c na n 41 t) (hs : so ta t = 1) (hD : 0 ≤ D) (e22 : ma 22 n.toNatClampNeg = y) (hy : 0 ≤ y.toInt ∧ y.toInt ≤ 2) (h : RzV (FP ta c) na ma (na 17 n.toNatClampNeg) x l1 m1 W D) (e18 : ma 18 n.toNatClampNeg = b) (eb : na 14 b.toNatClampNeg = 20) (h2 : VlS ta c na ma b l2 hi W2 D) (i1 : n.toInt + 1 ≤ l1) (i2 : n.toInt + 1 ≤ m1) (i3 : m1 ≤ l2) (h24 : 24 ≤ Wt) (hW : W + W2 + 2 ≤ Wt) : VlG ta c na ma n n.toInt hi Wt D := by
  have hc := cl_nat g.1
  have r := h2.num fs_ok
  obtain ⟨w, a1, a2⟩ := h.at fp_ok (l := n.toNatClampNeg + 1) (h' := m1.toNat) (by omega) (by omega)
  obtain ⟨w2, b1, b2, b3⟩ := h2.at fs_ok (l := m1.toNat) (h' := hi.toNat) (by omega) (by omega)
  exact ⟨n.toNatClampNeg, hi.toNat, D.toNat, Wt.toNat, by omega, by omega, g.1, ⟨by omega, Or.inr (Or.inl ⟨ndf_k g rfl, by unfold NdT; rw [g.2.2.1]; exact ⟨g.2.2.2.1.1, g.2.2.2.1.2, hs⟩, by rw [e22]; exact hy, by omega, b.toNatClampNeg, m1.toNat, w, w2, by omega, a2, by rw [e18]; exact b3, by rw [eb]; rfl, b2, by omega⟩)⟩, by omega, by omega, by rw [g.2.2.2.2]; decide⟩
end PB9
def LfV (F : FM) (na ma : Nat → Nat → Int32) (g : Nat → Int32) (p : Int32) (lo hi W D : Int) : Prop := ∃ x : Int32, ZfV F na ma g p x lo hi W D
abbrev LfP (ta : Nat → Nat → Int32) (c : Int) := LfV (FP ta c)
abbrev b_Mpg_parameter : ByteArray := prog_16_method_59_code
def y_Mpg_parameter : MethodName := ⟨"HomeSystemModel$Program", "parameter", "()I"⟩
theorem d_Mpg_parameter_0 : decode b_Mpg_parameter 0 = .ok (.aload_n 0, 1) := by decide +kernel
theorem d_Mpg_parameter_1 : decode b_Mpg_parameter 1 = .ok (.aload_n 0, 1) := by decide +kernel
theorem d_Mpg_parameter_2 : decode b_Mpg_parameter 2 = .ok (.invokevirtual 473, 3) := by decide +kernel
theorem d_Mpg_parameter_5 : decode b_Mpg_parameter 5 = .ok (.invokevirtual 373, 3) := by decide +kernel
theorem d_Mpg_parameter_8 : decode b_Mpg_parameter 8 = .ok (.aload_n 0, 1) := by decide +kernel
theorem d_Mpg_parameter_9 : decode b_Mpg_parameter 9 = .ok (.getfield 204, 3) := by decide +kernel
theorem d_Mpg_parameter_12 : decode b_Mpg_parameter 12 = .ok (.aload_n 0, 1) := by decide +kernel
theorem d_Mpg_parameter_13 : decode b_Mpg_parameter 13 = .ok (.getfield 360, 3) := by decide +kernel
theorem d_Mpg_parameter_16 : decode b_Mpg_parameter 16 = .ok (.iaload, 1) := by decide +kernel
theorem d_Mpg_parameter_17 : decode b_Mpg_parameter 17 = .ok (.istore_n 1, 1) := by decide +kernel
theorem d_Mpg_parameter_18 : decode b_Mpg_parameter 18 = .ok (.aload_n 0, 1) := by decide +kernel
theorem d_Mpg_parameter_19 : decode b_Mpg_parameter 19 = .ok (.dup, 1) := by decide +kernel
theorem d_Mpg_parameter_20 : decode b_Mpg_parameter 20 = .ok (.getfield 360, 3) := by decide +kernel
theorem d_Mpg_parameter_23 : decode b_Mpg_parameter 23 = .ok (.iconst 1, 1) := by decide +kernel
theorem d_Mpg_parameter_24 : decode b_Mpg_parameter 24 = .ok (.iadd, 1) := by decide +kernel
theorem d_Mpg_parameter_25 : decode b_Mpg_parameter 25 = .ok (.putfield 360, 3) := by decide +kernel
theorem d_Mpg_parameter_28 : decode b_Mpg_parameter 28 = .ok (.aload_n 0, 1) := by decide +kernel
theorem d_Mpg_parameter_29 : decode b_Mpg_parameter 29 = .ok (.bipush 42, 2) := by decide +kernel
theorem d_Mpg_parameter_31 : decode b_Mpg_parameter 31 = .ok (.aload_n 0, 1) := by decide +kernel
theorem d_Mpg_parameter_32 : decode b_Mpg_parameter 32 = .ok (.invokevirtual 442, 3) := by decide +kernel
theorem d_Mpg_parameter_35 : decode b_Mpg_parameter 35 = .ok (.invokevirtual 406, 3) := by decide +kernel
theorem d_Mpg_parameter_38 : decode b_Mpg_parameter 38 = .ok (.istore_n 2, 1) := by decide +kernel
theorem d_Mpg_parameter_39 : decode b_Mpg_parameter 39 = .ok (.aload_n 0, 1) := by decide +kernel
theorem d_Mpg_parameter_40 : decode b_Mpg_parameter 40 = .ok (.getfield 231, 3) := by decide +kernel
theorem d_Mpg_parameter_43 : decode b_Mpg_parameter 43 = .ok (.iload_n 2, 1) := by decide +kernel
theorem d_Mpg_parameter_44 : decode b_Mpg_parameter 44 = .ok (.iload_n 1, 1) := by decide +kernel
theorem d_Mpg_parameter_45 : decode b_Mpg_parameter 45 = .ok (.iastore, 1) := by decide +kernel
theorem d_Mpg_parameter_46 : decode b_Mpg_parameter 46 = .ok (.aload_n 0, 1) := by decide +kernel
theorem d_Mpg_parameter_47 : decode b_Mpg_parameter 47 = .ok (.ldc 95, 2) := by decide +kernel
theorem d_Mpg_parameter_49 : decode b_Mpg_parameter 49 = .ok (.invokevirtual 366, 3) := by decide +kernel
theorem d_Mpg_parameter_52 : decode b_Mpg_parameter 52 = .ok (.ifCond .eq 20, 3) := by decide +kernel
theorem d_Mpg_parameter_55 : decode b_Mpg_parameter 55 = .ok (.aload_n 0, 1) := by decide +kernel
theorem d_Mpg_parameter_56 : decode b_Mpg_parameter 56 = .ok (.invokevirtual 383, 3) := by decide +kernel
theorem d_Mpg_parameter_59 : decode b_Mpg_parameter 59 = .ok (.aload_n 0, 1) := by decide +kernel
theorem d_Mpg_parameter_60 : decode b_Mpg_parameter 60 = .ok (.ldc 97, 2) := by decide +kernel
theorem d_Mpg_parameter_62 : decode b_Mpg_parameter 62 = .ok (.invokevirtual 439, 3) := by decide +kernel
theorem d_Mpg_parameter_65 : decode b_Mpg_parameter 65 = .ok (.aload_n 0, 1) := by decide +kernel
theorem d_Mpg_parameter_66 : decode b_Mpg_parameter 66 = .ok (.getfield 216, 3) := by decide +kernel
theorem d_Mpg_parameter_69 : decode b_Mpg_parameter 69 = .ok (.iload_n 2, 1) := by decide +kernel
theorem d_Mpg_parameter_70 : decode b_Mpg_parameter 70 = .ok (.iconst 1, 1) := by decide +kernel
theorem d_Mpg_parameter_71 : decode b_Mpg_parameter 71 = .ok (.iastore, 1) := by decide +kernel
theorem d_Mpg_parameter_72 : decode b_Mpg_parameter 72 = .ok (.iload_n 2, 1) := by decide +kernel
theorem d_Mpg_parameter_73 : decode b_Mpg_parameter 73 = .ok (.ireturn, 1) := by decide +kernel
theorem q_Mpg_parameter : px_y y_Mpg_parameter 0 := by unfold px_y; decide +kernel
set_option maxHeartbeats 4000000 in
set_option maxRecDepth 100000 in
theorem c_mp_parameter (l : Launch) (D : va_G) (cs : Nat → ClassId) (h : Nat) (r : Nat → Nat) (g : Nat → Nat → Option Nat) (tf : Nat → Int32) (ta : Nat → Nat → Int32) (cf : Nat → Int32) (ca : Nat → Nat → Int32) (ef : Nat → Int32) (ea : Nat → Nat → Int32) (xf : Nat → Int32) (xa : Nat → Nat → Int32) (pf : Nat → Int32) (na : Nat → Nat → Int32) (ma : Nat → Nat → Int32) (wa : Nat → Nat → Int32) (lv : Nat) (g0 : 0 ≤ (pf 11).toInt) (g1 : (pf 11).toInt < (tf 6).toInt) (g2 : (tf 6).toInt ≤ 2049) (g3 : 0 ≤ (pf 12).toInt) (g4 : (pf 12).toInt ≤ 60) (g5 : 0 ≤ (pf 13).toInt) (g6 : (pf 13).toInt ≤ (pf 11).toInt + 10) (g7 : 0 ≤ (pf 26).toInt) (g8 : (pf 26).toInt ≤ (pf 12).toInt) (g9 : 61 ≤ (pf 12).toInt + (lv : Int)) (g10 : lv ≤ 61) (hlf : l.flags = pinnedFlags ++ [noTraceFlag]) (htk : TkI tf ta) (hfs : FsI (tf 6).toInt (pf 13).toInt na) : ThI l y_Mpg_parameter b_Mpg_parameter 3 (.int) D cs (8 * lv + 24) (220 * lv + 1120) [.ref h] [wdP cs h r g tf ta pf na ma wa cf ca ef ea xf xa] (oX (fun A U H => (oN A U H) ∧ (oP A g U H)) [wdP cs h r g tf ta pf na ma wa cf ca ef ea xf xa]) "java/lang/IllegalArgumentException" (fun v ps => ∃ (pf' : Nat → Int32) (na' : Nat → Nat → Int32) (ma' : Nat → Nat → Int32) (wa' : Nat → Nat → Int32), (ps = [wdP cs h r g tf ta pf' na' ma' wa' cf ca ef ea xf xa]) ∧ ((pf 11).toInt + 1 ≤ (pf' 11).toInt) ∧ ((pf' 11).toInt < (tf 6).toInt) ∧ ((pf 13).toInt + 1 ≤ (pf' 13).toInt) ∧ ((pf' 13).toInt - (pf 13).toInt ≤ (pf' 11).toInt - (pf 11).toInt) ∧ (bp ta (pf 11) + 1 ≤ bp ta (pf' 11)) ∧ ((pf' 12).toInt = (pf 12).toInt) ∧ ((pf' 24).toInt = (pf 24).toInt) ∧ ((pf' 25).toInt = (pf 25).toInt) ∧ ((pf' 26).toInt = (pf 26).toInt) ∧ (bp ta (pf 11) + 2 ≤ bp ta (pf' 11)) ∧ (FrB (pf 13).toInt na ma na' ma') ∧ (FrW (pf 26).toInt wa wa') ∧ (VlP ta (tf 6).toInt na' ma' v (pf 13).toInt (pf' 13).toInt (3 * (bp ta (pf' 11) - bp ta (pf 11))) 130) ∧ (FsI (tf 6).toInt (pf' 13).toInt na') ∧ (R_mp_parameter ta pf na ma wa pf' na' ma' wa' v 0)) (fun ps => ∃ (pf' : Nat → Int32) (na' : Nat → Nat → Int32) (ma' : Nat → Nat → Int32) (wa' : Nat → Nat → Int32), ps = [wdP cs h r g tf ta pf' na' ma' wa' cf ca ef ea xf xa] ∧ 0 ≤ (pf' 11).toInt ∧ (pf' 11).toInt + 1 ≤ (tf 6).toInt ∧ R_mp_parameter ta pf na ma wa pf' na' ma' wa' 0 1) := by
  refine th_enter (by decide) (Nat.le_of_ble_eq_true rfl) ?_
  intro p e s m below meth c A ls hAe S hr hlk hnm hA hT hX hw hl hne hadm
  have hl : lv_has ls 3 [(0, .ref h)] := hl
  have cst1 : (1 : Int32).toInt = 1 := rfl
  have cst42 : (42 : Int32).toInt = 42 := rfl
  have hX : (fun A U H => (oN A U H) ∧ (oP A g U H)) A s s.heap := by rw [hAe]; exact hX
  obtain ⟨hN, hP⟩ := hX
  have hZ := hP.1
  have hF0 := hP.2.1
  have hfb : FrB (pf 13).toInt na ma na ma := FrB.rf
  have hfw : FrW (pf 26).toInt wa wa := FrW.rf
  refine lv_aload_n S.x S.b d_Mpg_parameter_0 rfl (lv_at hl 0 rfl) ?_
  refine lv_aload_n S.x S.b d_Mpg_parameter_1 rfl (lv_at hl 0 rfl) ?_
  first | refine px_calli (pr := []) (px_runV (As := []) (rest := [.ref h]) S (c_mp_isType l D cs h r g tf ta pf na ma wa cf ca ef ea xf xa   (show 0 ≤ (pf 11).toInt from g0) (show (pf 11).toInt < (tf 6).toInt from g1) (show (tf 6).toInt ≤ 2049 from g2) htk _) hT (pr := []) (pcs := [wdP cs h r g tf ta pf na ma wa cf ca ef ea xf xa]) hw px_X.tt (px_recv hT hw 0 0 rfl rfl rfl) m12_85 m12_82 m12_84 ms_10_6 m1_21 q_Mpg_isType ⟨show 1 + 1 ≤ (8 * lv + 24) from (oz_198468a842), show 8 + (1 + 11) + 40 ≤ (220 * lv + 1120) from (oz_51fc6077e3)⟩ hl.1 rfl (Nat.le_of_ble_eq_true rfl) d_Mpg_parameter_2 ⟨Nat.le_of_ble_eq_true rfl, Nat.le_of_ble_eq_true rfl⟩) hw hA (fun v2 p1 H locs hp1 hw => ?_) | (refine px_calli (pr := []) (px_runV (As := []) (rest := [.ref h]) S (c_mp_isType l D cs h r g tf ta pf na ma wa cf ca ef ea xf xa   (show 0 ≤ (pf 11).toInt from by first | exact g0 | omega) (show (pf 11).toInt < (tf 6).toInt from by first | exact g1 | omega) (show (tf 6).toInt ≤ 2049 from by first | exact g2 | omega) htk _) hT (pr := []) (pcs := [wdP cs h r g tf ta pf na ma wa cf ca ef ea xf xa]) hw px_X.tt (px_recv hT hw 0 0 rfl rfl rfl) m12_85 m12_82 m12_84 ms_10_6 m1_21 q_Mpg_isType ⟨show 1 + 1 ≤ (8 * lv + 24) from (by first | exact oz_198468a842 | omega), show 8 + (1 + 11) + 40 ≤ (220 * lv + 1120) from (by first | exact oz_51fc6077e3 | omega)⟩ hl.1 rfl (Nat.le_of_ble_eq_true rfl) d_Mpg_parameter_2 ⟨Nat.le_of_ble_eq_true rfl, Nat.le_of_ble_eq_true rfl⟩) hw hA (fun v2 p1 H locs hp1 hw => ?_))
  obtain ⟨rfl, e3, e4, e5⟩ := hp1
  have e3 := z_rng e3
  have e4 : v2.toInt = 1 → (pf 11).toInt + 1 < (tf 6).toInt ∧ so ta (pf 11) = 2 ∧ 0 ≤ wh ta (pf 11) ∧ wh ta (pf 11) ≤ 1 := e4
  have e5 : R_mp_isType ta pf v2 := e5
  have lv2 := Int32.le_toInt v2
  have uv2 := Int32.toInt_lt v2
  first | refine th_callv (ps0 := [wdP cs h r g tf ta pf na ma wa cf ca ef ea xf xa]) (pr := [wdP cs h r g tf ta pf na ma wa cf ca ef ea xf xa]) (pcs := []) (As := [.int v2]) (rest := []) (c_mp_need l hlf D cs h v2) S hT hw (oX_call (P := (fun A U H => (oN A U H))) (pr := [wdP cs h r g tf ta pf na ma wa cf ca ef ea xf xa]) oG_N hw hA hN) (px_recv hT hw 0 0 rfl rfl rfl) m11_233 m11_230 m11_232 ms_9_0 m1_21 q_Mpg_need ⟨show 6 + 1 ≤ (8 * lv + 24) from (oz_9cd0e67005), show 8 + (2 + 11) + 100 ≤ (220 * lv + 1120) from (oz_15a4c3c561)⟩ hl.1 rfl (Nat.le_of_ble_eq_true rfl) d_Mpg_parameter_5 ⟨Nat.le_of_ble_eq_true rfl, Nat.le_of_ble_eq_true rfl⟩ hne hlk hA hAe (fun o t h => Or.inr h) ?_ (fun p6 H locs hp6 hw => ?_) | (refine th_callv (ps0 := [wdP cs h r g tf ta pf na ma wa cf ca ef ea xf xa]) (pr := [wdP cs h r g tf ta pf na ma wa cf ca ef ea xf xa]) (pcs := []) (As := [.int v2]) (rest := []) (c_mp_need l hlf D cs h v2) S hT hw (oX_call (P := (fun A U H => (oN A U H))) (pr := [wdP cs h r g tf ta pf na ma wa cf ca ef ea xf xa]) oG_N hw hA hN) (px_recv hT hw 0 0 rfl rfl rfl) m11_233 m11_230 m11_232 ms_9_0 m1_21 q_Mpg_need ⟨show 6 + 1 ≤ (8 * lv + 24) from (by first | exact oz_9cd0e67005 | omega), show 8 + (2 + 11) + 100 ≤ (220 * lv + 1120) from (by first | exact oz_15a4c3c561 | omega)⟩ hl.1 rfl (Nat.le_of_ble_eq_true rfl) d_Mpg_parameter_5 ⟨Nat.le_of_ble_eq_true rfl, Nat.le_of_ble_eq_true rfl⟩ hne hlk hA hAe (fun o t h => Or.inr h) ?_ (fun p6 H locs hp6 hw => ?_))
  · exact fun p1 H1 locs1 hp hw => by obtain ⟨rfl, hq0⟩ := hp; exact ⟨_, ⟨pf, na, ma, wa, rfl, by omega, by omega, (Or.inl ⟨v2, e5, Or.inl ⟨hq0, rfl, rfl, rfl, rfl, rfl, rfl⟩⟩)⟩, hw.sub [0] rfl rfl⟩
  obtain ⟨rfl, hndp6⟩ := hp6
  have hndp6 : ¬ v2.toInt = 0 := hndp6
  refine lv_aload_n S.x S.b d_Mpg_parameter_8 rfl (lv_at hl 0 rfl) ?_
  refine gP_10 S hT hw 0 rfl m9_234 d_Mpg_parameter_9 ?_
  refine lv_aload_n S.x S.b d_Mpg_parameter_12 rfl (lv_at hl 0 rfl) ?_
  refine gP_11 (v := (pf 11)) S hT hw 0 rfl rfl m9_235 d_Mpg_parameter_13 ?_
  refine px_iald S hT hw 0 9 (n := 2060) (f := (ta 10)) rfl gp_10 (x := (pf 11)) (vp_in_iff.mpr (by first | exact oz_846323bf3a g0 g1 g2 | (constructor <;> omega))) d_Mpg_parameter_16 ?_
  refine lv_topi (fun z8 ez8 => ?_)
  have lz8 := Int32.le_toInt z8
  have uz8 := Int32.toInt_lt z8
  have rz8 : z8.toInt = wh ta (pf 11) := by rw [ez8]; rfl
  refine lv_istore_n (lv' := [(1, .int z8), (0, .ref h)]) S.x S.b d_Mpg_parameter_17 rfl hl (by decide) rfl (fun ls hl => ?_)
  refine lv_aload_n S.x S.b d_Mpg_parameter_18 rfl (lv_at hl 1 rfl) ?_
  refine lv_dup S.x S.b d_Mpg_parameter_19 rfl ?_
  refine gP_11 (v := (pf 11)) S hT hw 0 rfl rfl m9_235 d_Mpg_parameter_20 ?_
  refine lv_iconst (v := 1) S.x S.b d_Mpg_parameter_23 (by decide) ?_
  refine lv_iadd S.x S.b d_Mpg_parameter_24 ?_
  have lr9 := Int32.le_toInt (pf 11)
  have ur9 := Int32.toInt_lt (pf 11)
  refine lv_topi (fun z10 ez10 => ?_)
  have tz10 : z10.toInt = ((pf 11).toInt + (1 : Int) + 2147483648) % 4294967296 - 2147483648 := by rw [ez10]; exact i_add (pf 11) 1
  have lz10 := Int32.le_toInt z10
  have uz10 := Int32.toInt_lt z10
  try replace tz10 : z10.toInt = (pf 11).toInt + (1 : Int) := by omega
  have hnx24 := tk_n htk (x := (pf 11)) (y := z10) (by omega) (by omega) (by omega)
  refine pP_11 S hT hw 0 rfl m9_235 rfl rfl rfl d_Mpg_parameter_25 (ps' := [wdP cs h r g tf ta (upd pf 11 z10) na ma wa cf ca ef ea xf xa]) rfl (fun H locs hw => ?_)
  refine lv_aload_n S.x S.b d_Mpg_parameter_28 rfl (lv_at hl 1 rfl) ?_
  refine lv_bipush (v := 42) S.x S.b d_Mpg_parameter_29 (by decide) ?_
  refine lv_aload_n S.x S.b d_Mpg_parameter_31 rfl (lv_at hl 1 rfl) ?_
  first | refine th_calli (ps0 := [wdP cs h r g tf ta pf na ma wa cf ca ef ea xf xa]) (pr := []) (pcs := [wdP cs h r g tf ta (upd pf 11 z10) na ma wa cf ca ef ea xf xa]) (As := []) (rest := [.int 42, .ref h]) (c_mp_name l D cs h r g tf ta na ma wa cf ca ef ea xf xa (upd pf 11 z10)   (show 0 ≤ z10.toInt from (oz_b3b25f0e49 tz10 g0)) (show z10.toInt < (tf 6).toInt from by omega) (show (tf 6).toInt ≤ 2049 from g2) hlf htk) S hT hw (oX_call (P := (fun A U H => (oN A U H) ∧ (oP A g U H))) (pr := []) (oG_and oG_N oG_P) hw hA ⟨hN, hP⟩) (px_recv hT hw 0 0 rfl rfl rfl) m12_2 m11_239 m12_1 ms_9_2 m1_21 q_Mpg_name ⟨show 7 + 1 ≤ (8 * lv + 24) from (oz_9bf819bc7f), show 8 + (1 + 11) + 150 ≤ (220 * lv + 1120) from (oz_16a7388fbd)⟩ hl.1 rfl (Nat.le_of_ble_eq_true rfl) d_Mpg_parameter_32 ⟨Nat.le_of_ble_eq_true rfl, Nat.le_of_ble_eq_true rfl⟩ hne hlk hA hAe (fun o t h => Or.inr h) ?_ (fun v14 p13 H locs hp13 hw => ?_) | (refine th_calli (ps0 := [wdP cs h r g tf ta pf na ma wa cf ca ef ea xf xa]) (pr := []) (pcs := [wdP cs h r g tf ta (upd pf 11 z10) na ma wa cf ca ef ea xf xa]) (As := []) (rest := [.int 42, .ref h]) (c_mp_name l D cs h r g tf ta na ma wa cf ca ef ea xf xa (upd pf 11 z10)   (show 0 ≤ z10.toInt from by first | exact oz_b3b25f0e49 tz10 g0 | omega) (show z10.toInt < (tf 6).toInt from by omega) (show (tf 6).toInt ≤ 2049 from by first | exact g2 | omega) hlf htk) S hT hw (oX_call (P := (fun A U H => (oN A U H) ∧ (oP A g U H))) (pr := []) (oG_and oG_N oG_P) hw hA ⟨hN, hP⟩) (px_recv hT hw 0 0 rfl rfl rfl) m12_2 m11_239 m12_1 ms_9_2 m1_21 q_Mpg_name ⟨show 7 + 1 ≤ (8 * lv + 24) from (by first | exact oz_9bf819bc7f | omega), show 8 + (1 + 11) + 150 ≤ (220 * lv + 1120) from (by first | exact oz_16a7388fbd | omega)⟩ hl.1 rfl (Nat.le_of_ble_eq_true rfl) d_Mpg_parameter_32 ⟨Nat.le_of_ble_eq_true rfl, Nat.le_of_ble_eq_true rfl⟩ hne hlk hA hAe (fun o t h => Or.inr h) ?_ (fun v14 p13 H locs hp13 hw => ?_))
  · exact fun p1 H1 locs1 hp hw => by obtain ⟨pq1, pq2, pq3, pq4, rfl, hq1, hq2, hu_na, hu_ma, hu_wa, hq3⟩ := hp; exact ⟨_, ⟨pq1, pq2, pq3, pq4, rfl, hq1, hq2, (Or.inl ⟨v2, e5, Or.inr ⟨hndp6, z8, ez8, z10, ez10, Or.inl ⟨pq1, hq3, rfl, hu_na, hu_ma, hu_wa, rfl, rfl⟩⟩⟩)⟩, hw⟩
  obtain ⟨pf12, rfl, e15, e16, e17, e18, e19, e20, e21, e22, e23, e24, e25⟩ := hp13
  have e15 : v14.toInt = z10.toInt := e15
  have e16 : SoIs ta v14 1 := e16
  have e17 : (pf12 11).toInt = z10.toInt + 1 := e17
  have e18 : (pf12 11).toInt < (tf 6).toInt := e18
  have e19 : bp ta z10 + 1 ≤ bp ta (pf12 11) := e19
  have e20 : (pf12 12).toInt = (pf 12).toInt := e20
  have e21 : (pf12 13).toInt = (pf 13).toInt := e21
  have e22 : (pf12 24).toInt = (pf 24).toInt := e22
  have e23 : (pf12 25).toInt = (pf 25).toInt := e23
  have e24 : (pf12 26).toInt = (pf 26).toInt := e24
  have e25 : R_mp_name ta (upd pf 11 z10) pf12 v14 0 := e25
  have lv14 := Int32.le_toInt v14
  have uv14 := Int32.toInt_lt v14
  first | refine px_calli (pr := []) (px_runV (As := [.int 42, .int v14]) (rest := []) S (c_mp_make l D cs h r g tf ta wa cf ca ef ea xf xa pf12 na ma 42 v14  (show 0 ≤ (pf12 13).toInt from (oz_f3ebed1ad0 e21 g5)) (show (pf12 13).toInt < 2100 from (oz_6fe2caf3b5 e21 g6 tz10 g2 e17 e18)) _) hT (pr := []) (pcs := [wdP cs h r g tf ta pf12 na ma wa cf ca ef ea xf xa]) hw px_X.tt (px_recv hT hw 0 0 rfl rfl rfl) m11_209 m11_206 m11_208 ms_8_12 m1_21 q_Mpg_make ⟨show 0 + 1 ≤ (8 * lv + 24) from (oz_87273e4cc2), show 8 + (3 + 11) + 0 ≤ (220 * lv + 1120) from (oz_03f22f7e11)⟩ hl.1 rfl (Nat.le_of_ble_eq_true rfl) d_Mpg_parameter_35 ⟨Nat.le_of_ble_eq_true rfl, Nat.le_of_ble_eq_true rfl⟩) hw hA (fun v33 p32 H locs hp32 hw => ?_) | (refine px_calli (pr := []) (px_runV (As := [.int 42, .int v14]) (rest := []) S (c_mp_make l D cs h r g tf ta wa cf ca ef ea xf xa pf12 na ma 42 v14  (show 0 ≤ (pf12 13).toInt from by first | exact oz_f3ebed1ad0 e21 g5 | omega) (show (pf12 13).toInt < 2100 from by first | exact oz_6fe2caf3b5 e21 g6 tz10 g2 e17 e18 | omega) _) hT (pr := []) (pcs := [wdP cs h r g tf ta pf12 na ma wa cf ca ef ea xf xa]) hw px_X.tt (px_recv hT hw 0 0 rfl rfl rfl) m11_209 m11_206 m11_208 ms_8_12 m1_21 q_Mpg_make ⟨show 0 + 1 ≤ (8 * lv + 24) from (by first | exact oz_87273e4cc2 | omega), show 8 + (3 + 11) + 0 ≤ (220 * lv + 1120) from (by first | exact oz_03f22f7e11 | omega)⟩ hl.1 rfl (Nat.le_of_ble_eq_true rfl) d_Mpg_parameter_35 ⟨Nat.le_of_ble_eq_true rfl, Nat.le_of_ble_eq_true rfl⟩) hw hA (fun v33 p32 H locs hp32 hw => ?_))
  obtain ⟨pf29, na30, ma31, rfl, e34, e35, e36, e37, e38, e39, e40, e41, e42⟩ := hp32
  have e34 : v33.toInt = (pf12 13).toInt := e34
  have e35 : (pf29 13).toInt = (pf12 13).toInt + 1 := e35
  have e36 : (pf29 11).toInt = (pf12 11).toInt := e36
  have e37 : (pf29 12).toInt = (pf12 12).toInt := e37
  have e38 : (pf29 24).toInt = (pf12 24).toInt := e38
  have e39 : (pf29 25).toInt = (pf12 25).toInt := e39
  have e40 : (pf29 26).toInt = (pf12 26).toInt := e40
  have e41 : MkN na ma na30 ma31 v33 (42 : Int32) v14 := e41
  have e42 : R_mp_make (42 : Int32) v14 pf12 na ma pf29 na30 ma31 v33 := e42
  obtain ⟨qb431, qb432, qb433, qb434⟩ := tk_eq (ta := ta) (x := (pf29 11)) (y := (pf12 11)) (by omega)
  have hmk_v33 := e41
  have hfm_v33 := MkN.frb (b := v33.toInt) hmk_v33 (by omega) (by omega)
  have hfs := FsI.mk hfs hmk_v33 (by omega) (by omega) (by omega) (by omega)
  have hfb := hfb.tr hfm_v33 (by omega)
  have hf_14_v33 := hmk_v33.2.1 (by decide) (by decide)
  have hf_15_v33 := hmk_v33.2.2.1
  have hf_21_v33 := hmk_v33.2.2.2.2.2.2.2.2.1
  clear hmk_v33 hfm_v33
  have lv33 := Int32.le_toInt v33
  have uv33 := Int32.toInt_lt v33
  refine lv_istore_n (lv' := [(2, .int v33), (1, .int z8), (0, .ref h)]) S.x S.b d_Mpg_parameter_38 rfl hl (by decide) rfl (fun ls hl => ?_)
  refine lv_aload_n S.x S.b d_Mpg_parameter_39 rfl (lv_at hl 2 rfl) ?_
  refine gP_22 S hT hw 0 rfl m10_9 d_Mpg_parameter_40 ?_
  refine lv_iload_n S.x S.b d_Mpg_parameter_43 rfl (lv_at hl 0 rfl) ?_
  refine lv_iload_n S.x S.b d_Mpg_parameter_44 rfl (lv_at hl 1 rfl) ?_
  refine px_iast S hT hw 0 18 (n := 2100) (f := (ma31 22)) (x := v33) (y := z8) rfl gp_22 (vp_in_iff.mpr (by constructor <;> omega)) d_Mpg_parameter_45 (w' := wdP cs h r g tf ta pf29 na30 (va_up ma31 22 (upd (ma31 22) v33.toNatClampNeg z8)) wa cf ca ef ea xf xa) (ps' := [wdP cs h r g tf ta pf29 na30 (va_up ma31 22 (upd (ma31 22) v33.toNatClampNeg z8)) wa cf ca ef ea xf xa]) sp_22 rfl (fun H locs hw => ?_)
  obtain ⟨ma44, hu_ma44⟩ : ∃ y : Nat → Nat → Int32, y = va_up ma31 22 (upd (ma31 22) v33.toNatClampNeg z8) := ⟨_, rfl⟩
  have hw : pw D A s.heap _ _ [wdP cs h r g tf ta pf29 na30 ma44 wa cf ca ef ea xf xa] := (by rw [hu_ma44]; exact hw)
  have hf_22_v33 : ma44 22 v33.toNatClampNeg = z8 := (by rw [hu_ma44, va_up_s, pk_us])
  have hfb : FrB (pf 13).toInt na ma na30 ma44 := (by rw [hu_ma44]; exact FrB.um hfb (by omega) (by omega))
  refine lv_aload_n S.x S.b d_Mpg_parameter_46 rfl (lv_at hl 2 rfl) ?_
  obtain ⟨sk45, hRsk45, st46, hSsk45⟩ := oP_litB hP (k := 95) (tx := "[") (n := 1) (List.mem_of_getElem? (i := 39) rfl)
  refine va_ldcS S.x S.b S.own hRsk45 d_Mpg_parameter_47 ?_
  first | refine px_calli (pr := []) (px_runV (As := [.ref sk45]) (rest := []) S (c_mp_is l D cs sk45 1 (lby "[") h r g tf ta pf29 na30 ma44 wa cf ca ef ea xf xa   (show 0 ≤ (pf29 11).toInt from (oz_6773c8d520 e36 e17 tz10 g0)) (show (pf29 11).toInt < (tf 6).toInt from (oz_5d2fbac15b e18 e36)) (show (tf 6).toInt ≤ 2049 from g2) (show 1 ≤ 100 from by omega) htk _) hT (pr := []) (pcs := [wdP cs h r g tf ta pf29 na30 ma44 wa cf ca ef ea xf xa]) hw (oX_call (P := (fun A U H => (oP A g U H) ∧ (StLt A sk45 1 (lby "[") U H))) (pr := []) (oG_and oG_P oG_QB) hw hA ⟨hP, ⟨_, hSsk45⟩⟩) (px_recv hT hw 0 0 rfl rfl rfl) m11_217 m11_214 m11_216 ms_8_14 m1_21 q_Mpg_is ⟨show 3 + 1 ≤ (8 * lv + 24) from (oz_fb0a20de2b), show 8 + (2 + 11) + 120 ≤ (220 * lv + 1120) from (oz_b86bb2acd9)⟩ hl.1 rfl (Nat.le_of_ble_eq_true rfl) d_Mpg_parameter_49 ⟨Nat.le_of_ble_eq_true rfl, Nat.le_of_ble_eq_true rfl⟩) hw hA (fun v49 p48 H locs hp48 hw => ?_) | (refine px_calli (pr := []) (px_runV (As := [.ref sk45]) (rest := []) S (c_mp_is l D cs sk45 1 (lby "[") h r g tf ta pf29 na30 ma44 wa cf ca ef ea xf xa   (show 0 ≤ (pf29 11).toInt from by first | exact oz_6773c8d520 e36 e17 tz10 g0 | omega) (show (pf29 11).toInt < (tf 6).toInt from by first | exact oz_5d2fbac15b e18 e36 | omega) (show (tf 6).toInt ≤ 2049 from by first | exact g2 | omega) (show 1 ≤ 100 from by omega) htk _) hT (pr := []) (pcs := [wdP cs h r g tf ta pf29 na30 ma44 wa cf ca ef ea xf xa]) hw (oX_call (P := (fun A U H => (oP A g U H) ∧ (StLt A sk45 1 (lby "[") U H))) (pr := []) (oG_and oG_P oG_QB) hw hA ⟨hP, ⟨_, hSsk45⟩⟩) (px_recv hT hw 0 0 rfl rfl rfl) m11_217 m11_214 m11_216 ms_8_14 m1_21 q_Mpg_is ⟨show 3 + 1 ≤ (8 * lv + 24) from (by first | exact oz_fb0a20de2b | omega), show 8 + (2 + 11) + 120 ≤ (220 * lv + 1120) from (by first | exact oz_b86bb2acd9 | omega)⟩ hl.1 rfl (Nat.le_of_ble_eq_true rfl) d_Mpg_parameter_49 ⟨Nat.le_of_ble_eq_true rfl, Nat.le_of_ble_eq_true rfl⟩) hw hA (fun v49 p48 H locs hp48 hw => ?_))
  obtain ⟨rfl, e50, e51, e52⟩ := hp48
  have e50 := z_rng e50
  have e51 : v49.toInt = 1 → (pf29 11).toInt + 1 < (tf 6).toInt ∧ so ta (pf29 11) = 5 := e51
  have e52 : R_mp_is 1 (lby "[") ta pf29 v49 := e52
  have lv49 := Int32.le_toInt v49
  have uv49 := Int32.toInt_lt v49
  refine lv_if_eq (tgt := 72) S.x S.b d_Mpg_parameter_52 (by decide) (fun c53 => ?_) (fun c53 => ?_)
  · have nc53 : v49.toInt = (0 : Int) := (i_eq (x := v49) (y := 0)).mp c53
    refine lv_iload_n S.x S.b d_Mpg_parameter_72 rfl (lv_at hl 0 rfl) ?_
    first | exact th_iret (v := v33) S hr rfl hlk hAe hw (⟨pf29, na30, ma44, wa, rfl, (show (pf 11).toInt + 1 ≤ (pf29 11).toInt from (oz_72d36d3019 tz10 e36 e17)), (show (pf29 11).toInt < (tf 6).toInt from (oz_5d2fbac15b e18 e36)), (show (pf 13).toInt + 1 ≤ (pf29 13).toInt from (oz_5a83f0d431 e21 e35)), (show (pf29 13).toInt - (pf 13).toInt ≤ (pf29 11).toInt - (pf 11).toInt from (oz_14c9e34823 tz10 e21 e35 e36 e17)), (show bp ta (pf 11) + 1 ≤ bp ta (pf29 11) from (oz_3d09c7e9e0 hnx24.1 qb431 hnx24.2 e19)), (show (pf29 12).toInt = (pf 12).toInt from (oz_1687f4cc65 e20 e37)), (show (pf29 24).toInt = (pf 24).toInt from (oz_1687f4cc65 e22 e38)), (show (pf29 25).toInt = (pf 25).toInt from (oz_1687f4cc65 e23 e39)), (show (pf29 26).toInt = (pf 26).toInt from (oz_1687f4cc65 e24 e40)), (show bp ta (pf 11) + 2 ≤ bp ta (pf29 11) from (oz_d7a4949520 hnx24.1 qb431 hnx24.2 e19)), (show FrB (pf 13).toInt na ma na30 ma44 from hfb), (show FrW (pf 26).toInt wa wa from hfw), (show VlP ta (tf 6).toInt na30 ma44 v33 (pf 13).toInt (pf29 13).toInt (3 * (bp ta (pf29 11) - bp ta (pf 11))) 130 from (VlV.le (vl_par (hi := (pf29 13).toInt) (D := 130) ⟨by omega, hf_14_v33, hf_15_v33, ⟨by omega, by omega⟩, hf_21_v33⟩ (show SoIs ta v14 1 by assumption) (by omega) hf_22_v33 (by omega) (by omega)) (by omega) (by omega) (by omega) (by omega))), (show FsI (tf 6).toInt (pf29 13).toInt na30 from (FsI.le hfs (by omega))), (show R_mp_parameter ta pf na ma wa pf29 na30 ma44 wa v33 0 from (Or.inl ⟨v2, e5, Or.inr ⟨hndp6, z8, ez8, z10, ez10, Or.inr ⟨pf12, v14, e25, pf29, na30, ma31, v33, e42, ma44, hu_ma44, v49, e52, Or.inl ⟨nc53, rfl, rfl, rfl, rfl, rfl, rfl⟩⟩⟩⟩))⟩) d_Mpg_parameter_73 | (exact th_iret (v := v33) S hr rfl hlk hAe hw (⟨pf29, na30, ma44, wa, rfl, (show (pf 11).toInt + 1 ≤ (pf29 11).toInt from by first | exact oz_72d36d3019 tz10 e36 e17 | omega), (show (pf29 11).toInt < (tf 6).toInt from by first | exact oz_5d2fbac15b e18 e36 | omega), (show (pf 13).toInt + 1 ≤ (pf29 13).toInt from by first | exact oz_5a83f0d431 e21 e35 | omega), (show (pf29 13).toInt - (pf 13).toInt ≤ (pf29 11).toInt - (pf 11).toInt from by first | exact oz_14c9e34823 tz10 e21 e35 e36 e17 | omega), (show bp ta (pf 11) + 1 ≤ bp ta (pf29 11) from by first | exact oz_3d09c7e9e0 hnx24.1 qb431 hnx24.2 e19 | omega), (show (pf29 12).toInt = (pf 12).toInt from by first | exact oz_1687f4cc65 e20 e37 | omega), (show (pf29 24).toInt = (pf 24).toInt from by first | exact oz_1687f4cc65 e22 e38 | omega), (show (pf29 25).toInt = (pf 25).toInt from by first | exact oz_1687f4cc65 e23 e39 | omega), (show (pf29 26).toInt = (pf 26).toInt from by first | exact oz_1687f4cc65 e24 e40 | omega), (show bp ta (pf 11) + 2 ≤ bp ta (pf29 11) from by first | exact oz_d7a4949520 hnx24.1 qb431 hnx24.2 e19 | omega), (show FrB (pf 13).toInt na ma na30 ma44 from hfb), (show FrW (pf 26).toInt wa wa from hfw), (show VlP ta (tf 6).toInt na30 ma44 v33 (pf 13).toInt (pf29 13).toInt (3 * (bp ta (pf29 11) - bp ta (pf 11))) 130 from (VlV.le (vl_par (hi := (pf29 13).toInt) (D := 130) ⟨by omega, hf_14_v33, hf_15_v33, ⟨by omega, by omega⟩, hf_21_v33⟩ (show SoIs ta v14 1 by assumption) (by omega) hf_22_v33 (by omega) (by omega)) (by omega) (by omega) (by omega) (by omega))), (show FsI (tf 6).toInt (pf29 13).toInt na30 from (FsI.le hfs (by omega))), (show R_mp_parameter ta pf na ma wa pf29 na30 ma44 wa v33 0 from (Or.inl ⟨v2, e5, Or.inr ⟨hndp6, z8, ez8, z10, ez10, Or.inr ⟨pf12, v14, e25, pf29, na30, ma31, v33, e42, ma44, hu_ma44, v49, e52, Or.inl ⟨nc53, rfl, rfl, rfl, rfl, rfl, rfl⟩⟩⟩⟩))⟩) d_Mpg_parameter_73)
  · have nc53 : ¬ v49.toInt = (0 : Int) := mt (i_eq (x := v49) (y := 0)).mpr c53
    refine lv_aload_n S.x S.b d_Mpg_parameter_55 rfl (lv_at hl 2 rfl) ?_
    first | refine th_callv (ps0 := [wdP cs h r g tf ta pf na ma wa cf ca ef ea xf xa]) (pr := []) (pcs := [wdP cs h r g tf ta pf29 na30 ma44 wa cf ca ef ea xf xa]) (As := []) (rest := []) (c_mp_opens l D cs h r g tf ta na30 ma44 wa cf ca ef ea xf xa pf29   (show 0 ≤ (pf29 11).toInt from (oz_6773c8d520 e36 e17 tz10 g0)) (show (pf29 11).toInt < (tf 6).toInt from (oz_5d2fbac15b e18 e36)) (show (tf 6).toInt ≤ 2049 from g2) (show (pf29 11).toInt + 1 < (tf 6).toInt from by omega) (show 0 ≤ (pf29 12).toInt from (oz_9bcc310e9c e37 e20 g8 g7)) (show (pf29 12).toInt ≤ 60 from (oz_d791cd839d e37 e20 g4)) hlf htk) S hT hw (oX_call (P := (fun A U H => (oN A U H) ∧ (oP A g U H))) (pr := []) (oG_and oG_N oG_P) hw hA ⟨hN, hP⟩) (px_recv hT hw 0 0 rfl rfl rfl) m11_238 m11_235 m11_237 ms_9_1 m1_21 q_Mpg_opens ⟨show 7 + 1 ≤ (8 * lv + 24) from (oz_9bf819bc7f), show 8 + (1 + 11) + 150 ≤ (220 * lv + 1120) from (oz_16a7388fbd)⟩ hl.1 rfl (Nat.le_of_ble_eq_true rfl) d_Mpg_parameter_56 ⟨Nat.le_of_ble_eq_true rfl, Nat.le_of_ble_eq_true rfl⟩ hne hlk hA hAe (fun o t h => Or.inr h) ?_ (fun p57 H locs hp57 hw => ?_) | (refine th_callv (ps0 := [wdP cs h r g tf ta pf na ma wa cf ca ef ea xf xa]) (pr := []) (pcs := [wdP cs h r g tf ta pf29 na30 ma44 wa cf ca ef ea xf xa]) (As := []) (rest := []) (c_mp_opens l D cs h r g tf ta na30 ma44 wa cf ca ef ea xf xa pf29   (show 0 ≤ (pf29 11).toInt from by first | exact oz_6773c8d520 e36 e17 tz10 g0 | omega) (show (pf29 11).toInt < (tf 6).toInt from by first | exact oz_5d2fbac15b e18 e36 | omega) (show (tf 6).toInt ≤ 2049 from by first | exact g2 | omega) (show (pf29 11).toInt + 1 < (tf 6).toInt from by omega) (show 0 ≤ (pf29 12).toInt from by first | exact oz_9bcc310e9c e37 e20 g8 g7 | omega) (show (pf29 12).toInt ≤ 60 from by first | exact oz_d791cd839d e37 e20 g4 | omega) hlf htk) S hT hw (oX_call (P := (fun A U H => (oN A U H) ∧ (oP A g U H))) (pr := []) (oG_and oG_N oG_P) hw hA ⟨hN, hP⟩) (px_recv hT hw 0 0 rfl rfl rfl) m11_238 m11_235 m11_237 ms_9_1 m1_21 q_Mpg_opens ⟨show 7 + 1 ≤ (8 * lv + 24) from (by first | exact oz_9bf819bc7f | omega), show 8 + (1 + 11) + 150 ≤ (220 * lv + 1120) from (by first | exact oz_16a7388fbd | omega)⟩ hl.1 rfl (Nat.le_of_ble_eq_true rfl) d_Mpg_parameter_56 ⟨Nat.le_of_ble_eq_true rfl, Nat.le_of_ble_eq_true rfl⟩ hne hlk hA hAe (fun o t h => Or.inr h) ?_ (fun p57 H locs hp57 hw => ?_))
    · exact fun p1 H1 locs1 hp hw => by obtain ⟨pq1, pq2, pq3, pq4, rfl, hq1, hq2, hu_na, hu_ma, hu_wa, hq3⟩ := hp; exact ⟨_, ⟨pq1, pq2, pq3, pq4, rfl, hq1, hq2, (Or.inl ⟨v2, e5, Or.inr ⟨hndp6, z8, ez8, z10, ez10, Or.inr ⟨pf12, v14, e25, pf29, na30, ma31, v33, e42, ma44, hu_ma44, v49, e52, Or.inr ⟨nc53, Or.inl ⟨pq1, hq3, rfl, hu_na, hu_ma, hu_wa, rfl, rfl⟩⟩⟩⟩⟩)⟩, hw⟩
    obtain ⟨pf56, rfl, e59, e60, e61, e62, e63, e64, e65, e66, e67, e68, e69⟩ := hp57
    have e59 : (pf56 11).toInt = (pf29 11).toInt + 1 := e59
    have e60 : (pf56 11).toInt < (tf 6).toInt := e60
    have e61 : bp ta (pf29 11) + sz ta (pf29 11) ≤ bp ta (pf56 11) := e61
    have e62 : 1 ≤ sz ta (pf29 11) := e62
    have e63 : (pf56 12).toInt = (pf29 12).toInt + 1 := e63
    have e64 : (pf29 12).toInt < 60 := e64
    have e65 : (pf56 13).toInt = (pf29 13).toInt := e65
    have e66 : (pf56 24).toInt = (pf29 24).toInt := e66
    have e67 : (pf56 25).toInt = (pf29 25).toInt := e67
    have e68 : (pf56 26).toInt = (pf29 26).toInt := e68
    have e69 : R_mp_opens pf29 pf56 0 := e69
    refine lv_aload_n S.x S.b d_Mpg_parameter_59 rfl (lv_at hl 2 rfl) ?_
    obtain ⟨sk70, hRsk70, st71, hSsk70⟩ := oP_litB hP (k := 97) (tx := "]") (n := 1) (List.mem_of_getElem? (i := 40) rfl)
    refine va_ldcS S.x S.b S.own hRsk70 d_Mpg_parameter_60 ?_
    first | refine th_callv (ps0 := [wdP cs h r g tf ta pf na ma wa cf ca ef ea xf xa]) (pr := []) (pcs := [wdP cs h r g tf ta pf56 na30 ma44 wa cf ca ef ea xf xa]) (As := [.ref sk70]) (rest := []) (c_mp_closes l D cs sk70 1 (lby "]") h r g tf ta na30 ma44 wa cf ca ef ea xf xa pf56   (show 0 ≤ (pf56 11).toInt from (oz_3d27b98b25 e59 e36 g0 tz10 e17)) (show (pf56 11).toInt < (tf 6).toInt from e60) (show (tf 6).toInt ≤ 2049 from g2) (show 1 ≤ (pf56 12).toInt from (oz_e5933a4a2c e63 e37 e20 g3)) (show (pf56 12).toInt ≤ 60 from (oz_6710fd9021 e63 e64)) (show 1 ≤ 100 from by omega) hlf htk) S hT hw (oX_call (P := (fun A U H => (oN A U H) ∧ (oP A g U H) ∧ (StLt A sk70 1 (lby "]") U H))) (pr := []) (oG_and oG_N (oG_and oG_P oG_QB)) hw hA ⟨hN, hP, ⟨_, hSsk70⟩⟩) (px_recv hT hw 0 0 rfl rfl rfl) m12_53 m12_50 m12_52 ms_9_14 m1_21 q_Mpg_closes ⟨show 8 + 1 ≤ (8 * lv + 24) from (oz_c2e63f36a0), show 8 + (2 + 11) + 280 ≤ (220 * lv + 1120) from (oz_9912658ac4)⟩ hl.1 rfl (Nat.le_of_ble_eq_true rfl) d_Mpg_parameter_62 ⟨Nat.le_of_ble_eq_true rfl, Nat.le_of_ble_eq_true rfl⟩ hne hlk hA hAe (fun o t h => Or.inr h) ?_ (fun p75 H locs hp75 hw => ?_) | (refine th_callv (ps0 := [wdP cs h r g tf ta pf na ma wa cf ca ef ea xf xa]) (pr := []) (pcs := [wdP cs h r g tf ta pf56 na30 ma44 wa cf ca ef ea xf xa]) (As := [.ref sk70]) (rest := []) (c_mp_closes l D cs sk70 1 (lby "]") h r g tf ta na30 ma44 wa cf ca ef ea xf xa pf56   (show 0 ≤ (pf56 11).toInt from by first | exact oz_3d27b98b25 e59 e36 g0 tz10 e17 | omega) (show (pf56 11).toInt < (tf 6).toInt from by first | exact e60 | omega) (show (tf 6).toInt ≤ 2049 from by first | exact g2 | omega) (show 1 ≤ (pf56 12).toInt from by first | exact oz_e5933a4a2c e63 e37 e20 g3 | omega) (show (pf56 12).toInt ≤ 60 from by first | exact oz_6710fd9021 e63 e64 | omega) (show 1 ≤ 100 from by omega) hlf htk) S hT hw (oX_call (P := (fun A U H => (oN A U H) ∧ (oP A g U H) ∧ (StLt A sk70 1 (lby "]") U H))) (pr := []) (oG_and oG_N (oG_and oG_P oG_QB)) hw hA ⟨hN, hP, ⟨_, hSsk70⟩⟩) (px_recv hT hw 0 0 rfl rfl rfl) m12_53 m12_50 m12_52 ms_9_14 m1_21 q_Mpg_closes ⟨show 8 + 1 ≤ (8 * lv + 24) from (by first | exact oz_c2e63f36a0 | omega), show 8 + (2 + 11) + 280 ≤ (220 * lv + 1120) from (by first | exact oz_9912658ac4 | omega)⟩ hl.1 rfl (Nat.le_of_ble_eq_true rfl) d_Mpg_parameter_62 ⟨Nat.le_of_ble_eq_true rfl, Nat.le_of_ble_eq_true rfl⟩ hne hlk hA hAe (fun o t h => Or.inr h) ?_ (fun p75 H locs hp75 hw => ?_))
    · exact fun p1 H1 locs1 hp hw => by obtain ⟨pq1, pq2, pq3, pq4, rfl, hq1, hq2, hu_na, hu_ma, hu_wa, hq3⟩ := hp; exact ⟨_, ⟨pq1, pq2, pq3, pq4, rfl, hq1, hq2, (Or.inl ⟨v2, e5, Or.inr ⟨hndp6, z8, ez8, z10, ez10, Or.inr ⟨pf12, v14, e25, pf29, na30, ma31, v33, e42, ma44, hu_ma44, v49, e52, Or.inr ⟨nc53, Or.inr ⟨pf56, e69, Or.inl ⟨pq1, hq3, rfl, hu_na, hu_ma, hu_wa, rfl, rfl⟩⟩⟩⟩⟩⟩)⟩, hw⟩
    obtain ⟨pf74, rfl, e77, e78, e79, e80, e81, e82, e83, e84, e85⟩ := hp75
    have e77 : (pf74 11).toInt = (pf56 11).toInt + 1 := e77
    have e78 : (pf74 11).toInt < (tf 6).toInt := e78
    have e79 : bp ta (pf56 11) + 1 ≤ bp ta (pf74 11) := e79
    have e80 : (pf74 12).toInt = (pf56 12).toInt - 1 := e80
    have e81 : (pf74 13).toInt = (pf56 13).toInt := e81
    have e82 : (pf74 24).toInt = (pf56 24).toInt := e82
    have e83 : (pf74 25).toInt = (pf56 25).toInt := e83
    have e84 : (pf74 26).toInt = (pf56 26).toInt := e84
    have e85 : R_mp_closes 1 (lby "]") ta pf56 pf74 0 := e85
    refine lv_aload_n S.x S.b d_Mpg_parameter_65 rfl (lv_at hl 2 rfl) ?_
    refine gP_17 S hT hw 0 rfl m10_1 d_Mpg_parameter_66 ?_
    refine lv_iload_n S.x S.b d_Mpg_parameter_69 rfl (lv_at hl 0 rfl) ?_
    refine lv_iconst (v := 1) S.x S.b d_Mpg_parameter_70 (by decide) ?_
    refine px_iast S hT hw 0 13 (n := 2100) (f := (na30 17)) (x := v33) (y := 1) rfl gp_17 (vp_in_iff.mpr (by constructor <;> omega)) d_Mpg_parameter_71 (w' := wdP cs h r g tf ta pf74 (va_up na30 17 (upd (na30 17) v33.toNatClampNeg 1)) ma44 wa cf ca ef ea xf xa) (ps' := [wdP cs h r g tf ta pf74 (va_up na30 17 (upd (na30 17) v33.toNatClampNeg 1)) ma44 wa cf ca ef ea xf xa]) sp_17 rfl (fun H locs hw => ?_)
    obtain ⟨na86, hu_na86⟩ : ∃ y : Nat → Nat → Int32, y = va_up na30 17 (upd (na30 17) v33.toNatClampNeg 1) := ⟨_, rfl⟩
    have hw : pw D A s.heap _ _ [wdP cs h r g tf ta pf74 na86 ma44 wa cf ca ef ea xf xa] := (by rw [hu_na86]; exact hw)
    have hf_14_v33 := (fl_n hu_na86 (by decide)).trans hf_14_v33
    have hf_15_v33 := (fl_n hu_na86 (by decide)).trans hf_15_v33
    have hf_21_v33 := (fl_n hu_na86 (by decide)).trans hf_21_v33
    have hf_17_v33 : na86 17 v33.toNatClampNeg = (1 : Int32) := (by rw [hu_na86, va_up_s, pk_us])
    have hfs : FsI _ _ na86 := (by rw [hu_na86]; exact FsI.un hfs (by decide))
    have hfb : FrB (pf 13).toInt na ma na86 ma44 := (by rw [hu_na86]; exact FrB.un hfb (by omega) (by omega))
    refine lv_iload_n S.x S.b d_Mpg_parameter_72 rfl (lv_at hl 0 rfl) ?_
    first | exact th_iret (v := v33) S hr rfl hlk hAe hw (⟨pf74, na86, ma44, wa, rfl, (show (pf 11).toInt + 1 ≤ (pf74 11).toInt from (oz_95ed43b5eb tz10 e77 e17 e59 e36)), (show (pf74 11).toInt < (tf 6).toInt from e78), (show (pf 13).toInt + 1 ≤ (pf74 13).toInt from (oz_68556fc0a8 e21 e81 e35 e65)), (show (pf74 13).toInt - (pf 13).toInt ≤ (pf74 11).toInt - (pf 11).toInt from (oz_853f55781e tz10 e21 e77 e81 e17 e35 e59 e65 e36)), (show bp ta (pf 11) + 1 ≤ bp ta (pf74 11) from (oz_49b4adb997 hnx24.1 e79 hnx24.2 e19 e61 qb431 e62)), (show (pf74 12).toInt = (pf 12).toInt from (oz_a3348d681e e20 e80 e37 e63)), (show (pf74 24).toInt = (pf 24).toInt from (oz_ff3084e3c1 e22 e82 e38 e66)), (show (pf74 25).toInt = (pf 25).toInt from (oz_ff3084e3c1 e23 e83 e39 e67)), (show (pf74 26).toInt = (pf 26).toInt from (oz_ff3084e3c1 e24 e84 e40 e68)), (show bp ta (pf 11) + 2 ≤ bp ta (pf74 11) from (oz_806f2fa6e8 hnx24.1 e79 hnx24.2 e19 e61 qb431 e62)), (show FrB (pf 13).toInt na ma na86 ma44 from hfb), (show FrW (pf 26).toInt wa wa from hfw), (show VlP ta (tf 6).toInt na86 ma44 v33 (pf 13).toInt (pf74 13).toInt (3 * (bp ta (pf74 11) - bp ta (pf 11))) 130 from (VlV.le (vl_par (hi := (pf74 13).toInt) (D := 130) ⟨by omega, hf_14_v33, hf_15_v33, ⟨by omega, by omega⟩, hf_21_v33⟩ (show SoIs ta v14 1 by assumption) (by omega) hf_22_v33 (by omega) (by omega)) (by omega) (by omega) (by omega) (by omega))), (show FsI (tf 6).toInt (pf74 13).toInt na86 from (FsI.le hfs (by omega))), (show R_mp_parameter ta pf na ma wa pf74 na86 ma44 wa v33 0 from (Or.inl ⟨v2, e5, Or.inr ⟨hndp6, z8, ez8, z10, ez10, Or.inr ⟨pf12, v14, e25, pf29, na30, ma31, v33, e42, ma44, hu_ma44, v49, e52, Or.inr ⟨nc53, Or.inr ⟨pf56, e69, Or.inr ⟨pf74, e85, na86, hu_na86, rfl, rfl, rfl, rfl, rfl, rfl⟩⟩⟩⟩⟩⟩))⟩) d_Mpg_parameter_73 | (exact th_iret (v := v33) S hr rfl hlk hAe hw (⟨pf74, na86, ma44, wa, rfl, (show (pf 11).toInt + 1 ≤ (pf74 11).toInt from by first | exact oz_95ed43b5eb tz10 e77 e17 e59 e36 | omega), (show (pf74 11).toInt < (tf 6).toInt from by first | exact e78 | omega), (show (pf 13).toInt + 1 ≤ (pf74 13).toInt from by first | exact oz_68556fc0a8 e21 e81 e35 e65 | omega), (show (pf74 13).toInt - (pf 13).toInt ≤ (pf74 11).toInt - (pf 11).toInt from by first | exact oz_853f55781e tz10 e21 e77 e81 e17 e35 e59 e65 e36 | omega), (show bp ta (pf 11) + 1 ≤ bp ta (pf74 11) from by first | exact oz_49b4adb997 hnx24.1 e79 hnx24.2 e19 e61 qb431 e62 | omega), (show (pf74 12).toInt = (pf 12).toInt from by first | exact oz_a3348d681e e20 e80 e37 e63 | omega), (show (pf74 24).toInt = (pf 24).toInt from by first | exact oz_ff3084e3c1 e22 e82 e38 e66 | omega), (show (pf74 25).toInt = (pf 25).toInt from by first | exact oz_ff3084e3c1 e23 e83 e39 e67 | omega), (show (pf74 26).toInt = (pf 26).toInt from by first | exact oz_ff3084e3c1 e24 e84 e40 e68 | omega), (show bp ta (pf 11) + 2 ≤ bp ta (pf74 11) from by first | exact oz_806f2fa6e8 hnx24.1 e79 hnx24.2 e19 e61 qb431 e62 | omega), (show FrB (pf 13).toInt na ma na86 ma44 from hfb), (show FrW (pf 26).toInt wa wa from hfw), (show VlP ta (tf 6).toInt na86 ma44 v33 (pf 13).toInt (pf74 13).toInt (3 * (bp ta (pf74 11) - bp ta (pf 11))) 130 from (VlV.le (vl_par (hi := (pf74 13).toInt) (D := 130) ⟨by omega, hf_14_v33, hf_15_v33, ⟨by omega, by omega⟩, hf_21_v33⟩ (show SoIs ta v14 1 by assumption) (by omega) hf_22_v33 (by omega) (by omega)) (by omega) (by omega) (by omega) (by omega))), (show FsI (tf 6).toInt (pf74 13).toInt na86 from (FsI.le hfs (by omega))), (show R_mp_parameter ta pf na ma wa pf74 na86 ma44 wa v33 0 from (Or.inl ⟨v2, e5, Or.inr ⟨hndp6, z8, ez8, z10, ez10, Or.inr ⟨pf12, v14, e25, pf29, na30, ma31, v33, e42, ma44, hu_ma44, v49, e52, Or.inr ⟨nc53, Or.inr ⟨pf56, e69, Or.inr ⟨pf74, e85, na86, hu_na86, rfl, rfl, rfl, rfl, rfl, rfl⟩⟩⟩⟩⟩⟩))⟩) d_Mpg_parameter_73)
abbrev b_Mpg_add : ByteArray := prog_16_method_57_code
def y_Mpg_add : MethodName := ⟨"HomeSystemModel$Program", "add", "(I)V"⟩
theorem d_Mpg_add_0 : decode b_Mpg_add 0 = .ok (.aload_n 0, 1) := by decide +kernel
theorem d_Mpg_add_1 : decode b_Mpg_add 1 = .ok (.aload_n 0, 1) := by decide +kernel
theorem d_Mpg_add_2 : decode b_Mpg_add 2 = .ok (.aload_n 0, 1) := by decide +kernel
theorem d_Mpg_add_3 : decode b_Mpg_add 3 = .ok (.getfield 500, 3) := by decide +kernel
theorem d_Mpg_add_6 : decode b_Mpg_add 6 = .ok (.aload_n 0, 1) := by decide +kernel
theorem d_Mpg_add_7 : decode b_Mpg_add 7 = .ok (.getfield 503, 3) := by decide +kernel
theorem d_Mpg_add_10 : decode b_Mpg_add 10 = .ok (.iload_n 1, 1) := by decide +kernel
theorem d_Mpg_add_11 : decode b_Mpg_add 11 = .ok (.invokevirtual 466, 3) := by decide +kernel
theorem d_Mpg_add_14 : decode b_Mpg_add 14 = .ok (.putfield 500, 3) := by decide +kernel
theorem d_Mpg_add_17 : decode b_Mpg_add 17 = .ok (.aload_n 0, 1) := by decide +kernel
theorem d_Mpg_add_18 : decode b_Mpg_add 18 = .ok (.iload_n 1, 1) := by decide +kernel
theorem d_Mpg_add_19 : decode b_Mpg_add 19 = .ok (.putfield 503, 3) := by decide +kernel
theorem d_Mpg_add_22 : decode b_Mpg_add 22 = .ok (.return_, 1) := by decide +kernel
theorem q_Mpg_add : px_y y_Mpg_add 1 := by unfold px_y; decide +kernel
set_option maxHeartbeats 4000000 in
set_option maxRecDepth 100000 in
theorem c_mp_add (l : Launch) (D : va_G) (cs : Nat → ClassId) (h : Nat) (r : Nat → Nat) (g : Nat → Nat → Option Nat) (tf : Nat → Int32) (ta : Nat → Nat → Int32) (ma : Nat → Nat → Int32) (wa : Nat → Nat → Int32) (cf : Nat → Int32) (ca : Nat → Nat → Int32) (ef : Nat → Int32) (ea : Nat → Nat → Int32) (xf : Nat → Int32) (xa : Nat → Nat → Int32) (pf : Nat → Int32) (na : Nat → Nat → Int32) (p0 : Int32)  (g0 : (pf 25).toInt < 2100) (htk : TkI tf ta) : MetV l y_Mpg_add b_Mpg_add 2 D cs 1 30 (0) (0) [.ref h, .int p0] [wdP cs h r g tf ta pf na ma wa cf ca ef ea xf xa] (fun _ => True) (fun ps => ∃ (pf' : Nat → Int32) (na' : Nat → Nat → Int32), (ps = [wdP cs h r g tf ta pf' na' ma wa cf ca ef ea xf xa]) ∧ ((pf' 11).toInt = (pf 11).toInt) ∧ ((pf' 12).toInt = (pf 12).toInt) ∧ ((pf' 13).toInt = (pf 13).toInt) ∧ ((pf' 26).toInt = (pf 26).toInt) ∧ ((pf' 25).toInt = p0.toInt) ∧ (Hg na na' (pf 24) (pf 25) p0 (pf' 24)) ∧ (R_mp_add p0 pf na pf' na')) := by
  refine px_enter (by decide) (Nat.le_of_ble_eq_true rfl) ?_
  intro p e s m below meth c A ls hAe S hr hlk hnm hA hT hX hw hl
  have hl : lv_has ls 2 [(0, .ref h), (1, .int p0)] := hl
  have lp0 := Int32.le_toInt p0
  have up0 := Int32.toInt_lt p0
  refine lv_aload_n S.x S.b d_Mpg_add_0 rfl (lv_at hl 0 rfl) ?_
  refine lv_aload_n S.x S.b d_Mpg_add_1 rfl (lv_at hl 0 rfl) ?_
  refine lv_aload_n S.x S.b d_Mpg_add_2 rfl (lv_at hl 0 rfl) ?_
  refine gP_24 (v := (pf 24)) S hT hw 0 rfl rfl m10_12 d_Mpg_add_3 ?_
  refine lv_aload_n S.x S.b d_Mpg_add_6 rfl (lv_at hl 0 rfl) ?_
  refine gP_25 (v := (pf 25)) S hT hw 0 rfl rfl m10_13 d_Mpg_add_7 ?_
  refine lv_iload_n S.x S.b d_Mpg_add_10 rfl (lv_at hl 1 rfl) ?_
  first | refine px_calli (pr := []) (px_runV (As := [.int (pf 24), .int (pf 25), .int p0]) (rest := [.ref h]) S (c_mp_hang l D cs h r g tf ta pf ma wa cf ca ef ea xf xa na (pf 24) (pf 25) p0  (show (pf 25).toInt < 2100 from g0) htk _) hT (pr := []) (pcs := [wdP cs h r g tf ta pf na ma wa cf ca ef ea xf xa]) hw px_X.tt (px_recv hT hw 0 0 rfl rfl rfl) m12_77 m12_74 m12_76 ms_10_4 m1_21 q_Mpg_hang ⟨Nat.le_of_ble_eq_true rfl, Nat.le_of_ble_eq_true rfl⟩ hl.1 rfl (Nat.le_of_ble_eq_true rfl) d_Mpg_add_11 ⟨Nat.le_of_ble_eq_true rfl, Nat.le_of_ble_eq_true rfl⟩) hw hA (fun v4 p3 H locs hp3 hw => ?_) | (refine px_calli (pr := []) (px_runV (As := [.int (pf 24), .int (pf 25), .int p0]) (rest := [.ref h]) S (c_mp_hang l D cs h r g tf ta pf ma wa cf ca ef ea xf xa na (pf 24) (pf 25) p0  (show (pf 25).toInt < 2100 from by first | exact g0 | omega) htk _) hT (pr := []) (pcs := [wdP cs h r g tf ta pf na ma wa cf ca ef ea xf xa]) hw px_X.tt (px_recv hT hw 0 0 rfl rfl rfl) m12_77 m12_74 m12_76 ms_10_4 m1_21 q_Mpg_hang ⟨Nat.le_of_ble_eq_true rfl, Nat.le_of_ble_eq_true rfl⟩ hl.1 rfl (Nat.le_of_ble_eq_true rfl) d_Mpg_add_11 ⟨Nat.le_of_ble_eq_true rfl, Nat.le_of_ble_eq_true rfl⟩) hw hA (fun v4 p3 H locs hp3 hw => ?_))
  obtain ⟨na2, rfl, e5, e6⟩ := hp3
  have e5 : Hg na na2 (pf 24) (pf 25) p0 v4 := e5
  have e6 : R_mp_hang (pf 24) (pf 25) p0 na na2 v4 := e6
  have lv4 := Int32.le_toInt v4
  have uv4 := Int32.toInt_lt v4
  refine pP_24 S hT hw 0 rfl m10_12 rfl rfl rfl d_Mpg_add_14 (ps' := [wdP cs h r g tf ta (upd pf 24 v4) na2 ma wa cf ca ef ea xf xa]) rfl (fun H locs hw => ?_)
  refine lv_aload_n S.x S.b d_Mpg_add_17 rfl (lv_at hl 0 rfl) ?_
  refine lv_iload_n S.x S.b d_Mpg_add_18 rfl (lv_at hl 1 rfl) ?_
  refine pP_25 S hT hw 0 rfl m10_13 rfl rfl rfl d_Mpg_add_19 (ps' := [wdP cs h r g tf ta (upd (upd pf 24 v4) 25 p0) na2 ma wa cf ca ef ea xf xa]) rfl (fun H locs hw => ?_)
  exact px_vret S hr hlk hAe hw (Nat.le_of_ble_eq_true rfl) (Nat.le_of_ble_eq_true rfl) (⟨(upd (upd pf 24 v4) 25 p0), na2, rfl, (show (pf 11).toInt = (pf 11).toInt from rfl), (show (pf 12).toInt = (pf 12).toInt from rfl), (show (pf 13).toInt = (pf 13).toInt from rfl), (show (pf 26).toInt = (pf 26).toInt from rfl), (show p0.toInt = p0.toInt from rfl), (show Hg na na2 (pf 24) (pf 25) p0 v4 from (by assumption)), (show R_mp_add p0 pf na (upd (upd pf 24 v4) 25 p0) na2 from (Or.inl ⟨na2, v4, e6, rfl, rfl⟩))⟩) d_Mpg_add_22
abbrev b_Mpg_enumeration : ByteArray := prog_16_method_58_code
def y_Mpg_enumeration : MethodName := ⟨"HomeSystemModel$Program", "enumeration", "()V"⟩
theorem d_Mpg_enumeration_0 : decode b_Mpg_enumeration 0 = .ok (.aload_n 0, 1) := by decide +kernel
theorem d_Mpg_enumeration_1 : decode b_Mpg_enumeration 1 = .ok (.bipush 43, 2) := by decide +kernel
theorem d_Mpg_enumeration_3 : decode b_Mpg_enumeration 3 = .ok (.aload_n 0, 1) := by decide +kernel
theorem d_Mpg_enumeration_4 : decode b_Mpg_enumeration 4 = .ok (.getfield 360, 3) := by decide +kernel
theorem d_Mpg_enumeration_7 : decode b_Mpg_enumeration 7 = .ok (.invokevirtual 406, 3) := by decide +kernel
theorem d_Mpg_enumeration_10 : decode b_Mpg_enumeration 10 = .ok (.istore_n 1, 1) := by decide +kernel
theorem d_Mpg_enumeration_11 : decode b_Mpg_enumeration 11 = .ok (.aload_n 0, 1) := by decide +kernel
theorem d_Mpg_enumeration_12 : decode b_Mpg_enumeration 12 = .ok (.dup, 1) := by decide +kernel
theorem d_Mpg_enumeration_13 : decode b_Mpg_enumeration 13 = .ok (.getfield 360, 3) := by decide +kernel
theorem d_Mpg_enumeration_16 : decode b_Mpg_enumeration 16 = .ok (.iconst 1, 1) := by decide +kernel
theorem d_Mpg_enumeration_17 : decode b_Mpg_enumeration 17 = .ok (.iadd, 1) := by decide +kernel
theorem d_Mpg_enumeration_18 : decode b_Mpg_enumeration 18 = .ok (.putfield 360, 3) := by decide +kernel
theorem d_Mpg_enumeration_21 : decode b_Mpg_enumeration 21 = .ok (.aload_n 0, 1) := by decide +kernel
theorem d_Mpg_enumeration_22 : decode b_Mpg_enumeration 22 = .ok (.ldc 91, 2) := by decide +kernel
theorem d_Mpg_enumeration_24 : decode b_Mpg_enumeration 24 = .ok (.invokevirtual 457, 3) := by decide +kernel
theorem d_Mpg_enumeration_27 : decode b_Mpg_enumeration 27 = .ok (.iconst (-1), 1) := by decide +kernel
theorem d_Mpg_enumeration_28 : decode b_Mpg_enumeration 28 = .ok (.istore_n 2, 1) := by decide +kernel
theorem d_Mpg_enumeration_29 : decode b_Mpg_enumeration 29 = .ok (.iconst 1, 1) := by decide +kernel
theorem d_Mpg_enumeration_30 : decode b_Mpg_enumeration 30 = .ok (.istore_n 3, 1) := by decide +kernel
theorem d_Mpg_enumeration_31 : decode b_Mpg_enumeration 31 = .ok (.iload_n 3, 1) := by decide +kernel
theorem d_Mpg_enumeration_32 : decode b_Mpg_enumeration 32 = .ok (.ifCond .eq 67, 3) := by decide +kernel
theorem d_Mpg_enumeration_35 : decode b_Mpg_enumeration 35 = .ok (.aload_n 0, 1) := by decide +kernel
theorem d_Mpg_enumeration_36 : decode b_Mpg_enumeration 36 = .ok (.bipush 44, 2) := by decide +kernel
theorem d_Mpg_enumeration_38 : decode b_Mpg_enumeration 38 = .ok (.aload_n 0, 1) := by decide +kernel
theorem d_Mpg_enumeration_39 : decode b_Mpg_enumeration 39 = .ok (.invokevirtual 442, 3) := by decide +kernel
theorem d_Mpg_enumeration_42 : decode b_Mpg_enumeration 42 = .ok (.invokevirtual 406, 3) := by decide +kernel
theorem d_Mpg_enumeration_45 : decode b_Mpg_enumeration 45 = .ok (.istore 4, 2) := by decide +kernel
theorem d_Mpg_enumeration_47 : decode b_Mpg_enumeration 47 = .ok (.aload_n 0, 1) := by decide +kernel
theorem d_Mpg_enumeration_48 : decode b_Mpg_enumeration 48 = .ok (.ldc 107, 2) := by decide +kernel
theorem d_Mpg_enumeration_50 : decode b_Mpg_enumeration 50 = .ok (.invokevirtual 370, 3) := by decide +kernel
theorem d_Mpg_enumeration_53 : decode b_Mpg_enumeration 53 = .ok (.ifCond .eq 14, 3) := by decide +kernel
theorem d_Mpg_enumeration_56 : decode b_Mpg_enumeration 56 = .ok (.aload_n 0, 1) := by decide +kernel
theorem d_Mpg_enumeration_57 : decode b_Mpg_enumeration 57 = .ok (.getfield 216, 3) := by decide +kernel
theorem d_Mpg_enumeration_60 : decode b_Mpg_enumeration 60 = .ok (.iload 4, 2) := by decide +kernel
theorem d_Mpg_enumeration_62 : decode b_Mpg_enumeration 62 = .ok (.aload_n 0, 1) := by decide +kernel
theorem d_Mpg_enumeration_63 : decode b_Mpg_enumeration 63 = .ok (.invokevirtual 451, 3) := by decide +kernel
theorem d_Mpg_enumeration_66 : decode b_Mpg_enumeration 66 = .ok (.iastore, 1) := by decide +kernel
theorem d_Mpg_enumeration_67 : decode b_Mpg_enumeration 67 = .ok (.aload_n 0, 1) := by decide +kernel
theorem d_Mpg_enumeration_68 : decode b_Mpg_enumeration 68 = .ok (.getfield 216, 3) := by decide +kernel
theorem d_Mpg_enumeration_71 : decode b_Mpg_enumeration 71 = .ok (.iload_n 1, 1) := by decide +kernel
theorem d_Mpg_enumeration_72 : decode b_Mpg_enumeration 72 = .ok (.aload_n 0, 1) := by decide +kernel
theorem d_Mpg_enumeration_73 : decode b_Mpg_enumeration 73 = .ok (.aload_n 0, 1) := by decide +kernel
theorem d_Mpg_enumeration_74 : decode b_Mpg_enumeration 74 = .ok (.getfield 216, 3) := by decide +kernel
theorem d_Mpg_enumeration_77 : decode b_Mpg_enumeration 77 = .ok (.iload_n 1, 1) := by decide +kernel
theorem d_Mpg_enumeration_78 : decode b_Mpg_enumeration 78 = .ok (.iaload, 1) := by decide +kernel
theorem d_Mpg_enumeration_79 : decode b_Mpg_enumeration 79 = .ok (.iload_n 2, 1) := by decide +kernel
theorem d_Mpg_enumeration_80 : decode b_Mpg_enumeration 80 = .ok (.iload 4, 2) := by decide +kernel
theorem d_Mpg_enumeration_82 : decode b_Mpg_enumeration 82 = .ok (.invokevirtual 466, 3) := by decide +kernel
theorem d_Mpg_enumeration_85 : decode b_Mpg_enumeration 85 = .ok (.iastore, 1) := by decide +kernel
theorem d_Mpg_enumeration_86 : decode b_Mpg_enumeration 86 = .ok (.iload 4, 2) := by decide +kernel
theorem d_Mpg_enumeration_88 : decode b_Mpg_enumeration 88 = .ok (.istore_n 2, 1) := by decide +kernel
theorem d_Mpg_enumeration_89 : decode b_Mpg_enumeration 89 = .ok (.aload_n 0, 1) := by decide +kernel
theorem d_Mpg_enumeration_90 : decode b_Mpg_enumeration 90 = .ok (.ldc 99, 2) := by decide +kernel
theorem d_Mpg_enumeration_92 : decode b_Mpg_enumeration 92 = .ok (.invokevirtual 370, 3) := by decide +kernel
theorem d_Mpg_enumeration_95 : decode b_Mpg_enumeration 95 = .ok (.istore_n 3, 1) := by decide +kernel
theorem d_Mpg_enumeration_96 : decode b_Mpg_enumeration 96 = .ok (.goto (-65), 3) := by decide +kernel
theorem d_Mpg_enumeration_99 : decode b_Mpg_enumeration 99 = .ok (.aload_n 0, 1) := by decide +kernel
theorem d_Mpg_enumeration_100 : decode b_Mpg_enumeration 100 = .ok (.ldc 93, 2) := by decide +kernel
theorem d_Mpg_enumeration_102 : decode b_Mpg_enumeration 102 = .ok (.invokevirtual 439, 3) := by decide +kernel
theorem d_Mpg_enumeration_105 : decode b_Mpg_enumeration 105 = .ok (.aload_n 0, 1) := by decide +kernel
theorem d_Mpg_enumeration_106 : decode b_Mpg_enumeration 106 = .ok (.ldc 101, 2) := by decide +kernel
theorem d_Mpg_enumeration_108 : decode b_Mpg_enumeration 108 = .ok (.invokevirtual 386, 3) := by decide +kernel
theorem d_Mpg_enumeration_111 : decode b_Mpg_enumeration 111 = .ok (.aload_n 0, 1) := by decide +kernel
theorem d_Mpg_enumeration_112 : decode b_Mpg_enumeration 112 = .ok (.iload_n 1, 1) := by decide +kernel
theorem d_Mpg_enumeration_113 : decode b_Mpg_enumeration 113 = .ok (.invokevirtual 506, 3) := by decide +kernel
theorem d_Mpg_enumeration_116 : decode b_Mpg_enumeration 116 = .ok (.return_, 1) := by decide +kernel
theorem q_Mpg_enumeration : px_y y_Mpg_enumeration 0 := by unfold px_y; decide +kernel
set_option maxHeartbeats 4000000 in
set_option maxRecDepth 100000 in
theorem c_mp_enumeration (l : Launch) (D : va_G) (cs : Nat → ClassId) (h : Nat) (r : Nat → Nat) (g : Nat → Nat → Option Nat) (tf : Nat → Int32) (ta : Nat → Nat → Int32) (cf : Nat → Int32) (ca : Nat → Nat → Int32) (ef : Nat → Int32) (ea : Nat → Nat → Int32) (xf : Nat → Int32) (xa : Nat → Nat → Int32) (pf : Nat → Int32) (na : Nat → Nat → Int32) (ma : Nat → Nat → Int32) (wa : Nat → Nat → Int32)  (g0 : 0 ≤ (pf 11).toInt) (g1 : (pf 11).toInt < (tf 6).toInt) (g2 : (tf 6).toInt ≤ 2049) (g3 : (pf 12).toInt = 0) (g4 : 0 ≤ (pf 13).toInt) (g5 : (pf 13).toInt ≤ (pf 11).toInt + 10) (g6 : (pf 26).toInt = 0) (g7 : -1 ≤ (pf 25).toInt) (g8 : (pf 25).toInt < (pf 13).toInt) (g9 : (pf 11).toInt + 1 < (tf 6).toInt) (hlf : l.flags = pinnedFlags ++ [noTraceFlag]) (htk : TkI tf ta) (hfs : FsI (tf 6).toInt (pf 13).toInt na) (hzg : RzG ta (tf 6).toInt na ma (pf 24) (pf 25) 0 (pf 13).toInt (3 * bp ta (pf 11)) 200) : ThV l y_Mpg_enumeration b_Mpg_enumeration 5 D cs (8 * 61 + 24) (220 * 61 + 1120) [.ref h] [wdP cs h r g tf ta pf na ma wa cf ca ef ea xf xa] (oX (fun A U H => (oN A U H) ∧ (oP A g U H)) [wdP cs h r g tf ta pf na ma wa cf ca ef ea xf xa]) "java/lang/IllegalArgumentException" (fun ps => ∃ (pf' : Nat → Int32) (na' : Nat → Nat → Int32) (ma' : Nat → Nat → Int32) (wa' : Nat → Nat → Int32), (ps = [wdP cs h r g tf ta pf' na' ma' wa' cf ca ef ea xf xa]) ∧ ((pf 11).toInt + 1 ≤ (pf' 11).toInt) ∧ ((pf' 11).toInt < (tf 6).toInt) ∧ ((pf 13).toInt ≤ (pf' 13).toInt) ∧ ((pf' 13).toInt - (pf 13).toInt ≤ (pf' 11).toInt - (pf 11).toInt) ∧ (bp ta (pf 11) + 1 ≤ bp ta (pf' 11)) ∧ ((pf' 12).toInt = 0) ∧ ((pf' 26).toInt = 0) ∧ (-1 ≤ (pf' 25).toInt) ∧ ((pf' 25).toInt < (pf' 13).toInt) ∧ (RzG ta (tf 6).toInt na' ma' (pf' 24) (pf' 25) 0 (pf' 13).toInt (3 * bp ta (pf' 11)) 200) ∧ (FsI (tf 6).toInt (pf' 13).toInt na') ∧ (R_mp_enumeration ta pf na ma wa pf' na' ma' wa' 0)) (fun ps => ∃ (pf' : Nat → Int32) (na' : Nat → Nat → Int32) (ma' : Nat → Nat → Int32) (wa' : Nat → Nat → Int32), ps = [wdP cs h r g tf ta pf' na' ma' wa' cf ca ef ea xf xa] ∧ 0 ≤ (pf' 11).toInt ∧ (pf' 11).toInt + 1 ≤ (tf 6).toInt ∧ R_mp_enumeration ta pf na ma wa pf' na' ma' wa' 1) := by
  refine th_enter (by decide) (Nat.le_of_ble_eq_true rfl) ?_
  intro p e s m below meth c A ls hAe S hr hlk hnm hA hT hX hw hl hne hadm
  have hl : lv_has ls 5 [(0, .ref h)] := hl
  have cstm1 : ((-1) : Int32).toInt = (-1) := rfl
  have cst1 : (1 : Int32).toInt = 1 := rfl
  have cst43 : (43 : Int32).toInt = 43 := rfl
  have cst44 : (44 : Int32).toInt = 44 := rfl
  have hX : (fun A U H => (oN A U H) ∧ (oP A g U H)) A s s.heap := by rw [hAe]; exact hX
  obtain ⟨hN, hP⟩ := hX
  have hZ := hP.1
  have hF0 := hP.2.1
  obtain ⟨lv, hlv⟩ : ∃ y : Nat, y = 61 := ⟨_, rfl⟩
  have hfb : FrB 0 na ma na ma := FrB.rf
  have hfw : FrW (pf 26).toInt wa wa := FrW.rf
  have hb11 := tk_b htk (x := (pf 11)) (by omega) (by omega)
  have J31 : ∀ (n_31 : Nat) (pf_31 : Nat → Int32) (na_31 : Nat → Nat → Int32) (ma_31 : Nat → Nat → Int32) (wa_31 : Nat → Nat → Int32) (x31_1 x31_2 x31_3 : Int32) (H : Heap) (locs : List Loc) (ls : Array Slot), ((pf_31 12).toInt = 1) → ((pf_31 26).toInt = 0) → ((pf_31 24).toInt = (pf 24).toInt) → ((pf_31 25).toInt = (pf 25).toInt) → ((pf 11).toInt + 2 ≤ (pf_31 11).toInt) → ((pf_31 11).toInt < (tf 6).toInt) → (x31_1.toInt = (pf 13).toInt) → (x31_1.toInt < (pf_31 13).toInt) → ((pf_31 13).toInt - (pf 13).toInt ≤ (pf_31 11).toInt - (pf 11).toInt) → (bp ta (pf 11) + 2 ≤ bp ta (pf_31 11)) → (x31_2.toInt = -1 ∨ x31_1.toInt + 1 ≤ x31_2.toInt) → (x31_2.toInt < (pf_31 13).toInt) → (0 ≤ x31_3.toInt) → (x31_3.toInt ≤ 1) → (FrB 0 na ma na_31 ma_31) → (FrW (pf 26).toInt wa wa_31) → (NdF (tf 6).toInt na_31 x31_1 43 (pf 11)) → (ZfK ta (tf 6).toInt na_31 ma_31 (na_31 17) x31_1 x31_2 (x31_1.toInt + 1) (pf_31 13).toInt (3 * (bp ta (pf_31 11) - bp ta (pf 11)) - 3 * x31_3.toInt) 130) → (RzG ta (tf 6).toInt na_31 ma_31 (pf 24) (pf 25) 0 (pf 13).toInt (3 * bp ta (pf 11)) 200) → (FsI (tf 6).toInt (pf_31 13).toInt na_31) → (K_mp_enumeration_31 ta pf na ma wa pf_31 na_31 ma_31 wa_31 x31_1 x31_2 x31_3) → 2 * ((tf 6).toInt - (pf_31 11).toInt) + x31_3.toInt < (n_31 : Int) → pw D A s.heap H locs [wdP cs h r g tf ta pf_31 na_31 ma_31 wa_31 cf ca ef ea xf xa] → lv_has ls 5 [(0, .ref h), (1, .int x31_1), (2, .int x31_2), (3, .int x31_3)] → W p l e { frames := (8 * 61 + 24), cells := 1, slots := 6, locals := (220 * 61 + 1120) } s m [.ref h].toArray below meth c H locs 0 0 (tx_MQ below (thQv D (va_A ([wdP cs h r g tf ta pf na ma wa cf ca ef ea xf xa] : List va_W).flatten s.heap.size) "java/lang/IllegalArgumentException" (fun ps => ∃ (pf' : Nat → Int32) (na' : Nat → Nat → Int32) (ma' : Nat → Nat → Int32) (wa' : Nat → Nat → Int32), (ps = [wdP cs h r g tf ta pf' na' ma' wa' cf ca ef ea xf xa]) ∧ ((pf 11).toInt + 1 ≤ (pf' 11).toInt) ∧ ((pf' 11).toInt < (tf 6).toInt) ∧ ((pf 13).toInt ≤ (pf' 13).toInt) ∧ ((pf' 13).toInt - (pf 13).toInt ≤ (pf' 11).toInt - (pf 11).toInt) ∧ (bp ta (pf 11) + 1 ≤ bp ta (pf' 11)) ∧ ((pf' 12).toInt = 0) ∧ ((pf' 26).toInt = 0) ∧ (-1 ≤ (pf' 25).toInt) ∧ ((pf' 25).toInt < (pf' 13).toInt) ∧ (RzG ta (tf 6).toInt na' ma' (pf' 24) (pf' 25) 0 (pf' 13).toInt (3 * bp ta (pf' 11)) 200) ∧ (FsI (tf 6).toInt (pf' 13).toInt na') ∧ (R_mp_enumeration ta pf na ma wa pf' na' ma' wa' 0)) (fun ps => ∃ (pf' : Nat → Int32) (na' : Nat → Nat → Int32) (ma' : Nat → Nat → Int32) (wa' : Nat → Nat → Int32), ps = [wdP cs h r g tf ta pf' na' ma' wa' cf ca ef ea xf xa] ∧ 0 ≤ (pf' 11).toInt ∧ (pf' 11).toInt + 1 ≤ (tf 6).toInt ∧ R_mp_enumeration ta pf na ma wa pf' na' ma' wa' 1) s.heap.size (tot s.heap)) [.ref h].toArray s 1 6 A) (F0 m 31 ls []) := by
    intro  n_31
    induction n_31 with
    | zero =>
      intro pf_31 na_31 ma_31 wa_31 x31_1 x31_2 x31_3 H locs ls k31_0 k31_1 k31_2 k31_3 k31_4 k31_5 k31_6 k31_7 k31_8 k31_9 k31_10 k31_11 k31_12 k31_13 k31_14 k31_15 k31_16 k31_17 k31_18 k31_19 k31_20 hm hw hl
      have lx31_1 := Int32.le_toInt x31_1
      have ux31_1 := Int32.toInt_lt x31_1
      have lx31_2 := Int32.le_toInt x31_2
      have ux31_2 := Int32.toInt_lt x31_2
      have lx31_3 := Int32.le_toInt x31_3
      have ux31_3 := Int32.toInt_lt x31_3
      have hfb := k31_14
      have hfw := k31_15
      have hf_14_x31_1 := k31_16.2.1
      have hf_15_x31_1 := k31_16.2.2.1
      have hf_21_x31_1 := k31_16.2.2.2.2
      have hnt_x31_1 := k31_16.2.2.2.1
      obtain ⟨b1, hf_17_x31_1, hrw_x31_2⟩ := k31_17
      have rq_b1 := hf_17_x31_1
      have hzg := k31_18
      have hfs := k31_19
      exact absurd hm (by omega)
    | succ n_31 ih31 =>
      intro pf_31 na_31 ma_31 wa_31 x31_1 x31_2 x31_3 H locs ls k31_0 k31_1 k31_2 k31_3 k31_4 k31_5 k31_6 k31_7 k31_8 k31_9 k31_10 k31_11 k31_12 k31_13 k31_14 k31_15 k31_16 k31_17 k31_18 k31_19 k31_20 hm hw hl
      have lx31_1 := Int32.le_toInt x31_1
      have ux31_1 := Int32.toInt_lt x31_1
      have lx31_2 := Int32.le_toInt x31_2
      have ux31_2 := Int32.toInt_lt x31_2
      have lx31_3 := Int32.le_toInt x31_3
      have ux31_3 := Int32.toInt_lt x31_3
      have hfb := k31_14
      have hfw := k31_15
      have hf_14_x31_1 := k31_16.2.1
      have hf_15_x31_1 := k31_16.2.2.1
      have hf_21_x31_1 := k31_16.2.2.2.2
      have hnt_x31_1 := k31_16.2.2.2.1
      obtain ⟨b2, hf_17_x31_1, hrw_x31_2⟩ := k31_17
      have rq_b2 := hf_17_x31_1
      have hzg := k31_18
      have hfs := k31_19
      refine lv_iload_n S.x S.b d_Mpg_enumeration_31 rfl (lv_at hl 3 rfl) ?_
      refine lv_if_eq (tgt := 99) S.x S.b d_Mpg_enumeration_32 (by decide) (fun c3 => ?_) (fun c3 => ?_)
      · have nc3 : x31_3.toInt = (0 : Int) := (i_eq (x := x31_3) (y := 0)).mp c3
        refine lv_aload_n S.x S.b d_Mpg_enumeration_99 rfl (lv_at hl 0 rfl) ?_
        obtain ⟨sk5, hRsk5, st6, hSsk5⟩ := oP_litB hP (k := 93) (tx := "}") (n := 1) (List.mem_of_getElem? (i := 38) rfl)
        refine va_ldcS S.x S.b S.own hRsk5 d_Mpg_enumeration_100 ?_
        first | refine th_callv (ps0 := [wdP cs h r g tf ta pf na ma wa cf ca ef ea xf xa]) (pr := []) (pcs := [wdP cs h r g tf ta pf_31 na_31 ma_31 wa_31 cf ca ef ea xf xa]) (As := [.ref sk5]) (rest := []) (c_mp_closes l D cs sk5 1 (lby "}") h r g tf ta na_31 ma_31 wa_31 cf ca ef ea xf xa pf_31   (show 0 ≤ (pf_31 11).toInt from (oz_f101e7799b k31_4 g0)) (show (pf_31 11).toInt < (tf 6).toInt from k31_5) (show (tf 6).toInt ≤ 2049 from g2) (show 1 ≤ (pf_31 12).toInt from (oz_c083232f4d k31_0)) (show (pf_31 12).toInt ≤ 60 from (oz_443389b263 k31_0)) (show 1 ≤ 100 from by omega) hlf htk) S hT hw (oX_call (P := (fun A U H => (oN A U H) ∧ (oP A g U H) ∧ (StLt A sk5 1 (lby "}") U H))) (pr := []) (oG_and oG_N (oG_and oG_P oG_QB)) hw hA ⟨hN, hP, ⟨_, hSsk5⟩⟩) (px_recv hT hw 0 0 rfl rfl rfl) m12_53 m12_50 m12_52 ms_9_14 m1_21 q_Mpg_closes ⟨show 8 + 1 ≤ (8 * 61 + 24) from by omega, show 8 + (2 + 11) + 280 ≤ (220 * 61 + 1120) from by omega⟩ hl.1 rfl (Nat.le_of_ble_eq_true rfl) d_Mpg_enumeration_102 ⟨Nat.le_of_ble_eq_true rfl, Nat.le_of_ble_eq_true rfl⟩ hne hlk hA hAe (fun o t h => Or.inr h) ?_ (fun p10 H locs hp10 hw => ?_) | (refine th_callv (ps0 := [wdP cs h r g tf ta pf na ma wa cf ca ef ea xf xa]) (pr := []) (pcs := [wdP cs h r g tf ta pf_31 na_31 ma_31 wa_31 cf ca ef ea xf xa]) (As := [.ref sk5]) (rest := []) (c_mp_closes l D cs sk5 1 (lby "}") h r g tf ta na_31 ma_31 wa_31 cf ca ef ea xf xa pf_31   (show 0 ≤ (pf_31 11).toInt from by first | exact oz_f101e7799b k31_4 g0 | omega) (show (pf_31 11).toInt < (tf 6).toInt from by first | exact k31_5 | omega) (show (tf 6).toInt ≤ 2049 from by first | exact g2 | omega) (show 1 ≤ (pf_31 12).toInt from by first | exact oz_c083232f4d k31_0 | omega) (show (pf_31 12).toInt ≤ 60 from by first | exact oz_443389b263 k31_0 | omega) (show 1 ≤ 100 from by omega) hlf htk) S hT hw (oX_call (P := (fun A U H => (oN A U H) ∧ (oP A g U H) ∧ (StLt A sk5 1 (lby "}") U H))) (pr := []) (oG_and oG_N (oG_and oG_P oG_QB)) hw hA ⟨hN, hP, ⟨_, hSsk5⟩⟩) (px_recv hT hw 0 0 rfl rfl rfl) m12_53 m12_50 m12_52 ms_9_14 m1_21 q_Mpg_closes ⟨show 8 + 1 ≤ (8 * 61 + 24) from by omega, show 8 + (2 + 11) + 280 ≤ (220 * 61 + 1120) from by omega⟩ hl.1 rfl (Nat.le_of_ble_eq_true rfl) d_Mpg_enumeration_102 ⟨Nat.le_of_ble_eq_true rfl, Nat.le_of_ble_eq_true rfl⟩ hne hlk hA hAe (fun o t h => Or.inr h) ?_ (fun p10 H locs hp10 hw => ?_))
        · exact fun p1 H1 locs1 hp hw => by obtain ⟨pq1, pq2, pq3, pq4, rfl, hq1, hq2, hu_na, hu_ma, hu_wa, hq3⟩ := hp; exact ⟨_, ⟨pq1, pq2, pq3, pq4, rfl, hq1, hq2, (k31_20 _ _ _ _ _ 1 (Or.inr (Or.inl ⟨rfl, x31_1, x31_2, x31_3, rfl, rfl, rfl, rfl, rfl, b2, rq_b2, Or.inl ⟨nc3, Or.inl ⟨pq1, hq3, rfl, hu_na, hu_ma, hu_wa, rfl⟩⟩⟩)))⟩, hw⟩
        obtain ⟨pf9, rfl, e12, e13, e14, e15, e16, e17, e18, e19, e20⟩ := hp10
        have e12 : (pf9 11).toInt = (pf_31 11).toInt + 1 := e12
        have e13 : (pf9 11).toInt < (tf 6).toInt := e13
        have e14 : bp ta (pf_31 11) + 1 ≤ bp ta (pf9 11) := e14
        have e15 : (pf9 12).toInt = (pf_31 12).toInt - 1 := e15
        have e16 : (pf9 13).toInt = (pf_31 13).toInt := e16
        have e17 : (pf9 24).toInt = (pf_31 24).toInt := e17
        have e18 : (pf9 25).toInt = (pf_31 25).toInt := e18
        have e19 : (pf9 26).toInt = (pf_31 26).toInt := e19
        have e20 : R_mp_closes 1 (lby "}") ta pf_31 pf9 0 := e20
        refine lv_aload_n S.x S.b d_Mpg_enumeration_105 rfl (lv_at hl 0 rfl) ?_
        obtain ⟨sk21, hRsk21, st22, hSsk21⟩ := oP_litB hP (k := 101) (tx := ";") (n := 1) (List.mem_of_getElem? (i := 42) rfl)
        refine va_ldcS S.x S.b S.own hRsk21 d_Mpg_enumeration_106 ?_
        first | refine th_callv (ps0 := [wdP cs h r g tf ta pf na ma wa cf ca ef ea xf xa]) (pr := []) (pcs := [wdP cs h r g tf ta pf9 na_31 ma_31 wa_31 cf ca ef ea xf xa]) (As := [.ref sk21]) (rest := []) (c_mp_take l D cs sk21 1 (lby ";") h r g tf ta na_31 ma_31 wa_31 cf ca ef ea xf xa pf9   (show 0 ≤ (pf9 11).toInt from (oz_632d55c52e e12 k31_4 g0)) (show (pf9 11).toInt < (tf 6).toInt from e13) (show (tf 6).toInt ≤ 2049 from g2) (show 1 ≤ 100 from by omega) hlf htk) S hT hw (oX_call (P := (fun A U H => (oN A U H) ∧ (oP A g U H) ∧ (StLt A sk21 1 (lby ";") U H))) (pr := []) (oG_and oG_N (oG_and oG_P oG_QB)) hw hA ⟨hN, hP, ⟨_, hSsk21⟩⟩) (px_recv hT hw 0 0 rfl rfl rfl) m12_57 m12_54 m12_56 ms_9_15 m1_21 q_Mpg_take ⟨show 7 + 1 ≤ (8 * 61 + 24) from by omega, show 8 + (2 + 11) + 230 ≤ (220 * 61 + 1120) from by omega⟩ hl.1 rfl (Nat.le_of_ble_eq_true rfl) d_Mpg_enumeration_108 ⟨Nat.le_of_ble_eq_true rfl, Nat.le_of_ble_eq_true rfl⟩ hne hlk hA hAe (fun o t h => Or.inr h) ?_ (fun p26 H locs hp26 hw => ?_) | (refine th_callv (ps0 := [wdP cs h r g tf ta pf na ma wa cf ca ef ea xf xa]) (pr := []) (pcs := [wdP cs h r g tf ta pf9 na_31 ma_31 wa_31 cf ca ef ea xf xa]) (As := [.ref sk21]) (rest := []) (c_mp_take l D cs sk21 1 (lby ";") h r g tf ta na_31 ma_31 wa_31 cf ca ef ea xf xa pf9   (show 0 ≤ (pf9 11).toInt from by first | exact oz_632d55c52e e12 k31_4 g0 | omega) (show (pf9 11).toInt < (tf 6).toInt from by first | exact e13 | omega) (show (tf 6).toInt ≤ 2049 from by first | exact g2 | omega) (show 1 ≤ 100 from by omega) hlf htk) S hT hw (oX_call (P := (fun A U H => (oN A U H) ∧ (oP A g U H) ∧ (StLt A sk21 1 (lby ";") U H))) (pr := []) (oG_and oG_N (oG_and oG_P oG_QB)) hw hA ⟨hN, hP, ⟨_, hSsk21⟩⟩) (px_recv hT hw 0 0 rfl rfl rfl) m12_57 m12_54 m12_56 ms_9_15 m1_21 q_Mpg_take ⟨show 7 + 1 ≤ (8 * 61 + 24) from by omega, show 8 + (2 + 11) + 230 ≤ (220 * 61 + 1120) from by omega⟩ hl.1 rfl (Nat.le_of_ble_eq_true rfl) d_Mpg_enumeration_108 ⟨Nat.le_of_ble_eq_true rfl, Nat.le_of_ble_eq_true rfl⟩ hne hlk hA hAe (fun o t h => Or.inr h) ?_ (fun p26 H locs hp26 hw => ?_))
        · exact fun p1 H1 locs1 hp hw => by obtain ⟨pq1, pq2, pq3, pq4, rfl, hq1, hq2, hu_na, hu_ma, hu_wa, hq3⟩ := hp; exact ⟨_, ⟨pq1, pq2, pq3, pq4, rfl, hq1, hq2, (k31_20 _ _ _ _ _ 1 (Or.inr (Or.inl ⟨rfl, x31_1, x31_2, x31_3, rfl, rfl, rfl, rfl, rfl, b2, rq_b2, Or.inl ⟨nc3, Or.inr ⟨pf9, e20, Or.inl ⟨pq1, hq3, rfl, hu_na, hu_ma, hu_wa, rfl⟩⟩⟩⟩)))⟩, hw⟩
        obtain ⟨pf25, rfl, e28, e29, e30, e31, e32, e33, e34, e35, e36⟩ := hp26
        have e28 : (pf25 11).toInt = (pf9 11).toInt + 1 := e28
        have e29 : (pf25 11).toInt < (tf 6).toInt := e29
        have e30 : bp ta (pf9 11) + 1 ≤ bp ta (pf25 11) := e30
        have e31 : (pf25 12).toInt = (pf9 12).toInt := e31
        have e32 : (pf25 13).toInt = (pf9 13).toInt := e32
        have e33 : (pf25 24).toInt = (pf9 24).toInt := e33
        have e34 : (pf25 25).toInt = (pf9 25).toInt := e34
        have e35 : (pf25 26).toInt = (pf9 26).toInt := e35
        have e36 : R_mp_take 1 (lby ";") ta pf9 pf25 0 := e36
        refine lv_aload_n S.x S.b d_Mpg_enumeration_111 rfl (lv_at hl 0 rfl) ?_
        refine lv_iload_n S.x S.b d_Mpg_enumeration_112 rfl (lv_at hl 1 rfl) ?_
        first | refine px_callv (pr := []) (px_runV (As := [.int x31_1]) (rest := []) S (c_mp_add l D cs h r g tf ta ma_31 wa_31 cf ca ef ea xf xa pf25 na_31 x31_1  (show (pf25 25).toInt < 2100 from (oz_ec982f3f0b e34 e18 k31_3 g8 g5 k31_4 e12 g2 e28 e29)) htk _) hT (pr := []) (pcs := [wdP cs h r g tf ta pf25 na_31 ma_31 wa_31 cf ca ef ea xf xa]) hw px_X.tt (px_recv hT hw 0 0 rfl rfl rfl) m12_81 m12_78 m12_80 ms_10_5 m1_21 q_Mpg_add ⟨show 1 + 1 ≤ (8 * 61 + 24) from by omega, show 8 + (2 + 11) + 30 ≤ (220 * 61 + 1120) from by omega⟩ hl.1 rfl (Nat.le_of_ble_eq_true rfl) d_Mpg_enumeration_113 ⟨Nat.le_of_ble_eq_true rfl, Nat.le_of_ble_eq_true rfl⟩) hw hA (fun p41 H locs hp41 hw => ?_) | (refine px_callv (pr := []) (px_runV (As := [.int x31_1]) (rest := []) S (c_mp_add l D cs h r g tf ta ma_31 wa_31 cf ca ef ea xf xa pf25 na_31 x31_1  (show (pf25 25).toInt < 2100 from by first | exact oz_ec982f3f0b e34 e18 k31_3 g8 g5 k31_4 e12 g2 e28 e29 | omega) htk _) hT (pr := []) (pcs := [wdP cs h r g tf ta pf25 na_31 ma_31 wa_31 cf ca ef ea xf xa]) hw px_X.tt (px_recv hT hw 0 0 rfl rfl rfl) m12_81 m12_78 m12_80 ms_10_5 m1_21 q_Mpg_add ⟨show 1 + 1 ≤ (8 * 61 + 24) from by omega, show 8 + (2 + 11) + 30 ≤ (220 * 61 + 1120) from by omega⟩ hl.1 rfl (Nat.le_of_ble_eq_true rfl) d_Mpg_enumeration_113 ⟨Nat.le_of_ble_eq_true rfl, Nat.le_of_ble_eq_true rfl⟩) hw hA (fun p41 H locs hp41 hw => ?_))
        obtain ⟨pf39, na40, rfl, e43, e44, e45, e46, e47, e48, e49⟩ := hp41
        have e43 : (pf39 11).toInt = (pf25 11).toInt := e43
        have e44 : (pf39 12).toInt = (pf25 12).toInt := e44
        have e45 : (pf39 13).toInt = (pf25 13).toInt := e45
        have e46 : (pf39 26).toInt = (pf25 26).toInt := e46
        have e47 : (pf39 25).toInt = x31_1.toInt := e47
        have e48 : Hg na_31 na40 (pf25 24) (pf25 25) x31_1 (pf39 24) := e48
        have hvg := vg_enum (hi := (pf25 13).toInt) (D := 200) (x := x31_2) ⟨by omega, hf_14_x31_1, hf_15_x31_1, ⟨by omega, by omega⟩, hf_21_x31_1⟩ (by omega) (by omega) (by rw [hf_17_x31_1]; exact RzV.le hrw_x31_2 (by omega) (by omega) (Int.le_refl _) (by omega))
        have hzg := Hg.row e48 fg_ok (rz_eq hzg (by omega) (by omega)) (VlV.le hvg (by omega) (Int.le_refl _) (Int.le_refl _) (by omega)) (by omega) (by omega)
        have hfs := FsI.hg hfs e48
        have e49 : R_mp_add x31_1 pf25 na_31 pf39 na40 := e49
        obtain ⟨qb501, qb502, qb503, qb504⟩ := tk_eq (ta := ta) (x := (pf39 11)) (y := (pf25 11)) (by omega)
        first | exact th_vret S hr hlk hAe hw (⟨pf39, na40, ma_31, wa_31, rfl, (show (pf 11).toInt + 1 ≤ (pf39 11).toInt from (oz_e70fca6503 k31_4 e43 e12 e28)), (show (pf39 11).toInt < (tf 6).toInt from (oz_5d2fbac15b e29 e43)), (show (pf 13).toInt ≤ (pf39 13).toInt from (oz_64d5401b2c k31_6 e45 k31_7 e16 e32)), (show (pf39 13).toInt - (pf 13).toInt ≤ (pf39 11).toInt - (pf 11).toInt from (oz_34b08d2b77 k31_8 e43 e45 e12 e16 e28 e32)), (show bp ta (pf 11) + 1 ≤ bp ta (pf39 11) from (oz_5d911a48a2 k31_9 qb501 e14 e30)), (show (pf39 12).toInt = 0 from (oz_f68b379cbf e44 e31 e15 k31_0)), (show (pf39 26).toInt = 0 from (oz_5e358525a3 e46 e35 e19 k31_1)), (show -1 ≤ (pf39 25).toInt from (oz_b23efdd26a e47 k31_6 g4)), (show (pf39 25).toInt < (pf39 13).toInt from (oz_0a92d61c1d e45 e47 k31_7 e32 e16)), (show RzG ta (tf 6).toInt na40 ma_31 (pf39 24) (pf39 25) 0 (pf39 13).toInt (3 * bp ta (pf39 11)) 200 from (RzV.le (rz_eq (Or.inr hzg) (by omega) (by omega)) (by omega) (by omega) (by omega) (by omega))), (show FsI (tf 6).toInt (pf39 13).toInt na40 from (FsI.le hfs (by omega))), (show R_mp_enumeration ta pf na ma wa pf39 na40 ma_31 wa_31 0 from (k31_20 _ _ _ _ _ 1 (Or.inr (Or.inl ⟨rfl, x31_1, x31_2, x31_3, rfl, rfl, rfl, rfl, rfl, b2, rq_b2, Or.inl ⟨nc3, Or.inr ⟨pf9, e20, Or.inr ⟨pf25, e36, pf39, na40, e49, rfl, rfl, rfl, rfl, rfl⟩⟩⟩⟩))))⟩) d_Mpg_enumeration_116 | (exact th_vret S hr hlk hAe hw (⟨pf39, na40, ma_31, wa_31, rfl, (show (pf 11).toInt + 1 ≤ (pf39 11).toInt from by first | exact oz_e70fca6503 k31_4 e43 e12 e28 | omega), (show (pf39 11).toInt < (tf 6).toInt from by first | exact oz_5d2fbac15b e29 e43 | omega), (show (pf 13).toInt ≤ (pf39 13).toInt from by first | exact oz_64d5401b2c k31_6 e45 k31_7 e16 e32 | omega), (show (pf39 13).toInt - (pf 13).toInt ≤ (pf39 11).toInt - (pf 11).toInt from by first | exact oz_34b08d2b77 k31_8 e43 e45 e12 e16 e28 e32 | omega), (show bp ta (pf 11) + 1 ≤ bp ta (pf39 11) from by first | exact oz_5d911a48a2 k31_9 qb501 e14 e30 | omega), (show (pf39 12).toInt = 0 from by first | exact oz_f68b379cbf e44 e31 e15 k31_0 | omega), (show (pf39 26).toInt = 0 from by first | exact oz_5e358525a3 e46 e35 e19 k31_1 | omega), (show -1 ≤ (pf39 25).toInt from by first | exact oz_b23efdd26a e47 k31_6 g4 | omega), (show (pf39 25).toInt < (pf39 13).toInt from by first | exact oz_0a92d61c1d e45 e47 k31_7 e32 e16 | omega), (show RzG ta (tf 6).toInt na40 ma_31 (pf39 24) (pf39 25) 0 (pf39 13).toInt (3 * bp ta (pf39 11)) 200 from (RzV.le (rz_eq (Or.inr hzg) (by omega) (by omega)) (by omega) (by omega) (by omega) (by omega))), (show FsI (tf 6).toInt (pf39 13).toInt na40 from (FsI.le hfs (by omega))), (show R_mp_enumeration ta pf na ma wa pf39 na40 ma_31 wa_31 0 from (k31_20 _ _ _ _ _ 1 (Or.inr (Or.inl ⟨rfl, x31_1, x31_2, x31_3, rfl, rfl, rfl, rfl, rfl, b2, rq_b2, Or.inl ⟨nc3, Or.inr ⟨pf9, e20, Or.inr ⟨pf25, e36, pf39, na40, e49, rfl, rfl, rfl, rfl, rfl⟩⟩⟩⟩))))⟩) d_Mpg_enumeration_116)
      · have nc3 : ¬ x31_3.toInt = (0 : Int) := mt (i_eq (x := x31_3) (y := 0)).mpr c3
        refine lv_aload_n S.x S.b d_Mpg_enumeration_35 rfl (lv_at hl 0 rfl) ?_
        refine lv_bipush (v := 44) S.x S.b d_Mpg_enumeration_36 (by decide) ?_
        refine lv_aload_n S.x S.b d_Mpg_enumeration_38 rfl (lv_at hl 0 rfl) ?_
        first | refine th_calli (ps0 := [wdP cs h r g tf ta pf na ma wa cf ca ef ea xf xa]) (pr := []) (pcs := [wdP cs h r g tf ta pf_31 na_31 ma_31 wa_31 cf ca ef ea xf xa]) (As := []) (rest := [.int 44, .ref h]) (c_mp_name l D cs h r g tf ta na_31 ma_31 wa_31 cf ca ef ea xf xa pf_31   (show 0 ≤ (pf_31 11).toInt from (oz_f101e7799b k31_4 g0)) (show (pf_31 11).toInt < (tf 6).toInt from k31_5) (show (tf 6).toInt ≤ 2049 from g2) hlf htk) S hT hw (oX_call (P := (fun A U H => (oN A U H) ∧ (oP A g U H))) (pr := []) (oG_and oG_N oG_P) hw hA ⟨hN, hP⟩) (px_recv hT hw 0 0 rfl rfl rfl) m12_2 m11_239 m12_1 ms_9_2 m1_21 q_Mpg_name ⟨show 7 + 1 ≤ (8 * 61 + 24) from by omega, show 8 + (1 + 11) + 150 ≤ (220 * 61 + 1120) from by omega⟩ hl.1 rfl (Nat.le_of_ble_eq_true rfl) d_Mpg_enumeration_39 ⟨Nat.le_of_ble_eq_true rfl, Nat.le_of_ble_eq_true rfl⟩ hne hlk hA hAe (fun o t h => Or.inr h) ?_ (fun v54 p53 H locs hp53 hw => ?_) | (refine th_calli (ps0 := [wdP cs h r g tf ta pf na ma wa cf ca ef ea xf xa]) (pr := []) (pcs := [wdP cs h r g tf ta pf_31 na_31 ma_31 wa_31 cf ca ef ea xf xa]) (As := []) (rest := [.int 44, .ref h]) (c_mp_name l D cs h r g tf ta na_31 ma_31 wa_31 cf ca ef ea xf xa pf_31   (show 0 ≤ (pf_31 11).toInt from by first | exact oz_f101e7799b k31_4 g0 | omega) (show (pf_31 11).toInt < (tf 6).toInt from by first | exact k31_5 | omega) (show (tf 6).toInt ≤ 2049 from by first | exact g2 | omega) hlf htk) S hT hw (oX_call (P := (fun A U H => (oN A U H) ∧ (oP A g U H))) (pr := []) (oG_and oG_N oG_P) hw hA ⟨hN, hP⟩) (px_recv hT hw 0 0 rfl rfl rfl) m12_2 m11_239 m12_1 ms_9_2 m1_21 q_Mpg_name ⟨show 7 + 1 ≤ (8 * 61 + 24) from by omega, show 8 + (1 + 11) + 150 ≤ (220 * 61 + 1120) from by omega⟩ hl.1 rfl (Nat.le_of_ble_eq_true rfl) d_Mpg_enumeration_39 ⟨Nat.le_of_ble_eq_true rfl, Nat.le_of_ble_eq_true rfl⟩ hne hlk hA hAe (fun o t h => Or.inr h) ?_ (fun v54 p53 H locs hp53 hw => ?_))
        · exact fun p1 H1 locs1 hp hw => by obtain ⟨pq1, pq2, pq3, pq4, rfl, hq1, hq2, hu_na, hu_ma, hu_wa, hq3⟩ := hp; exact ⟨_, ⟨pq1, pq2, pq3, pq4, rfl, hq1, hq2, (k31_20 _ _ _ _ _ 1 (Or.inr (Or.inl ⟨rfl, x31_1, x31_2, x31_3, rfl, rfl, rfl, rfl, rfl, b2, rq_b2, Or.inr ⟨nc3, Or.inl ⟨pq1, hq3, rfl, hu_na, hu_ma, hu_wa, rfl⟩⟩⟩)))⟩, hw⟩
        obtain ⟨pf52, rfl, e55, e56, e57, e58, e59, e60, e61, e62, e63, e64, e65⟩ := hp53
        have e55 : v54.toInt = (pf_31 11).toInt := e55
        have e56 : SoIs ta v54 1 := e56
        have e57 : (pf52 11).toInt = (pf_31 11).toInt + 1 := e57
        have e58 : (pf52 11).toInt < (tf 6).toInt := e58
        have e59 : bp ta (pf_31 11) + 1 ≤ bp ta (pf52 11) := e59
        have e60 : (pf52 12).toInt = (pf_31 12).toInt := e60
        have e61 : (pf52 13).toInt = (pf_31 13).toInt := e61
        have e62 : (pf52 24).toInt = (pf_31 24).toInt := e62
        have e63 : (pf52 25).toInt = (pf_31 25).toInt := e63
        have e64 : (pf52 26).toInt = (pf_31 26).toInt := e64
        have e65 : R_mp_name ta pf_31 pf52 v54 0 := e65
        have lv54 := Int32.le_toInt v54
        have uv54 := Int32.toInt_lt v54
        first | refine px_calli (pr := []) (px_runV (As := [.int 44, .int v54]) (rest := []) S (c_mp_make l D cs h r g tf ta wa_31 cf ca ef ea xf xa pf52 na_31 ma_31 44 v54  (show 0 ≤ (pf52 13).toInt from (oz_75207bdd89 e61 k31_7 g4 k31_6)) (show (pf52 13).toInt < 2100 from (oz_7b8a9e084a e61 k31_8 g5 e57 g2 e58)) _) hT (pr := []) (pcs := [wdP cs h r g tf ta pf52 na_31 ma_31 wa_31 cf ca ef ea xf xa]) hw px_X.tt (px_recv hT hw 0 0 rfl rfl rfl) m11_209 m11_206 m11_208 ms_8_12 m1_21 q_Mpg_make ⟨show 0 + 1 ≤ (8 * 61 + 24) from by omega, show 8 + (3 + 11) + 0 ≤ (220 * 61 + 1120) from by omega⟩ hl.1 rfl (Nat.le_of_ble_eq_true rfl) d_Mpg_enumeration_42 ⟨Nat.le_of_ble_eq_true rfl, Nat.le_of_ble_eq_true rfl⟩) hw hA (fun v73 p72 H locs hp72 hw => ?_) | (refine px_calli (pr := []) (px_runV (As := [.int 44, .int v54]) (rest := []) S (c_mp_make l D cs h r g tf ta wa_31 cf ca ef ea xf xa pf52 na_31 ma_31 44 v54  (show 0 ≤ (pf52 13).toInt from by first | exact oz_75207bdd89 e61 k31_7 g4 k31_6 | omega) (show (pf52 13).toInt < 2100 from by first | exact oz_7b8a9e084a e61 k31_8 g5 e57 g2 e58 | omega) _) hT (pr := []) (pcs := [wdP cs h r g tf ta pf52 na_31 ma_31 wa_31 cf ca ef ea xf xa]) hw px_X.tt (px_recv hT hw 0 0 rfl rfl rfl) m11_209 m11_206 m11_208 ms_8_12 m1_21 q_Mpg_make ⟨show 0 + 1 ≤ (8 * 61 + 24) from by omega, show 8 + (3 + 11) + 0 ≤ (220 * 61 + 1120) from by omega⟩ hl.1 rfl (Nat.le_of_ble_eq_true rfl) d_Mpg_enumeration_42 ⟨Nat.le_of_ble_eq_true rfl, Nat.le_of_ble_eq_true rfl⟩) hw hA (fun v73 p72 H locs hp72 hw => ?_))
        obtain ⟨pf69, na70, ma71, rfl, e74, e75, e76, e77, e78, e79, e80, e81, e82⟩ := hp72
        have e74 : v73.toInt = (pf52 13).toInt := e74
        have e75 : (pf69 13).toInt = (pf52 13).toInt + 1 := e75
        have e76 : (pf69 11).toInt = (pf52 11).toInt := e76
        have e77 : (pf69 12).toInt = (pf52 12).toInt := e77
        have e78 : (pf69 24).toInt = (pf52 24).toInt := e78
        have e79 : (pf69 25).toInt = (pf52 25).toInt := e79
        have e80 : (pf69 26).toInt = (pf52 26).toInt := e80
        have e81 : MkN na_31 ma_31 na70 ma71 v73 (44 : Int32) v54 := e81
        have e82 : R_mp_make (44 : Int32) v54 pf52 na_31 ma_31 pf69 na70 ma71 v73 := e82
        obtain ⟨qb831, qb832, qb833, qb834⟩ := tk_eq (ta := ta) (x := (pf69 11)) (y := (pf52 11)) (by omega)
        have hmk_v73 := e81
        have hfm_v73 := MkN.frb (b := v73.toInt) hmk_v73 (by omega) (by omega)
        have hf_14_x31_1 := (fb_n hfm_v73 (by omega) (by omega)).trans hf_14_x31_1
        have hf_15_x31_1 := (fb_n hfm_v73 (by omega) (by omega)).trans hf_15_x31_1
        have hf_21_x31_1 := (fb_n hfm_v73 (by omega) (by omega)).trans hf_21_x31_1
        have hf_17_x31_1 := (fb_n hfm_v73 (by omega) (by omega)).trans hf_17_x31_1
        have hrw_x31_2 := hrw_x31_2.ag fk_ok (FrB.ag hfm_v73 (by omega))
        have hzg := hzg.ag fg_ok (FrB.ag hfm_v73 (by omega))
        have hfs := FsI.mk hfs hmk_v73 (by omega) (by omega) (by omega) (by omega)
        have hfb := hfb.tr hfm_v73 (by omega)
        have hf_14_v73 := hmk_v73.2.1 (by decide) (by decide)
        have hf_15_v73 := hmk_v73.2.2.1
        have hf_17_v73 := hmk_v73.2.2.2.2.1
        have hf_21_v73 := hmk_v73.2.2.2.2.2.2.2.2.1
        clear hmk_v73 hfm_v73
        have lv73 := Int32.le_toInt v73
        have uv73 := Int32.toInt_lt v73
        refine lv_istore (lv' := [(4, .int v73), (0, .ref h), (1, .int x31_1), (2, .int x31_2), (3, .int x31_3)]) S.x S.b d_Mpg_enumeration_45 hl (by decide) rfl (fun ls hl => ?_)
        refine lv_aload_n S.x S.b d_Mpg_enumeration_47 rfl (lv_at hl 1 rfl) ?_
        obtain ⟨sk84, hRsk84, st85, hSsk84⟩ := oP_litB hP (k := 107) (tx := "=") (n := 1) (List.mem_of_getElem? (i := 45) rfl)
        refine va_ldcS S.x S.b S.own hRsk84 d_Mpg_enumeration_48 ?_
        first | refine px_calli (pr := []) (px_runV (As := [.ref sk84]) (rest := []) S (c_mp_takes l D cs sk84 1 (lby "=") h r g tf ta na70 ma71 wa_31 cf ca ef ea xf xa pf69   (show 0 ≤ (pf69 11).toInt from (oz_951c320703 e76 e57 k31_4 g0)) (show (pf69 11).toInt < (tf 6).toInt from (oz_5d2fbac15b e58 e76)) (show (tf 6).toInt ≤ 2049 from g2) (show 1 ≤ 100 from by omega) htk _) hT (pr := []) (pcs := [wdP cs h r g tf ta pf69 na70 ma71 wa_31 cf ca ef ea xf xa]) hw (oX_call (P := (fun A U H => (oP A g U H) ∧ (StLt A sk84 1 (lby "=") U H))) (pr := []) (oG_and oG_P oG_QB) hw hA ⟨hP, ⟨_, hSsk84⟩⟩) (px_recv hT hw 0 0 rfl rfl rfl) m12_6 m12_3 m12_5 ms_9_3 m1_21 q_Mpg_takes ⟨show 4 + 1 ≤ (8 * 61 + 24) from by omega, show 8 + (3 + 11) + 160 ≤ (220 * 61 + 1120) from by omega⟩ hl.1 rfl (Nat.le_of_ble_eq_true rfl) d_Mpg_enumeration_50 ⟨Nat.le_of_ble_eq_true rfl, Nat.le_of_ble_eq_true rfl⟩) hw hA (fun v90 p89 H locs hp89 hw => ?_) | (refine px_calli (pr := []) (px_runV (As := [.ref sk84]) (rest := []) S (c_mp_takes l D cs sk84 1 (lby "=") h r g tf ta na70 ma71 wa_31 cf ca ef ea xf xa pf69   (show 0 ≤ (pf69 11).toInt from by first | exact oz_951c320703 e76 e57 k31_4 g0 | omega) (show (pf69 11).toInt < (tf 6).toInt from by first | exact oz_5d2fbac15b e58 e76 | omega) (show (tf 6).toInt ≤ 2049 from by first | exact g2 | omega) (show 1 ≤ 100 from by omega) htk _) hT (pr := []) (pcs := [wdP cs h r g tf ta pf69 na70 ma71 wa_31 cf ca ef ea xf xa]) hw (oX_call (P := (fun A U H => (oP A g U H) ∧ (StLt A sk84 1 (lby "=") U H))) (pr := []) (oG_and oG_P oG_QB) hw hA ⟨hP, ⟨_, hSsk84⟩⟩) (px_recv hT hw 0 0 rfl rfl rfl) m12_6 m12_3 m12_5 ms_9_3 m1_21 q_Mpg_takes ⟨show 4 + 1 ≤ (8 * 61 + 24) from by omega, show 8 + (3 + 11) + 160 ≤ (220 * 61 + 1120) from by omega⟩ hl.1 rfl (Nat.le_of_ble_eq_true rfl) d_Mpg_enumeration_50 ⟨Nat.le_of_ble_eq_true rfl, Nat.le_of_ble_eq_true rfl⟩) hw hA (fun v90 p89 H locs hp89 hw => ?_))
        obtain ⟨pf88, rfl, e91, e92, e93, e94, e95, e96, e97, e98, e99, e100⟩ := hp89
        have e91 := z_rng e91
        have e92 : (pf88 11).toInt = (pf69 11).toInt + v90.toInt := e92
        have e93 : (pf88 11).toInt < (tf 6).toInt := e93
        have e94 : bp ta (pf69 11) + v90.toInt ≤ bp ta (pf88 11) := e94
        have e95 : (pf88 12).toInt = (pf69 12).toInt := e95
        have e96 : (pf88 13).toInt = (pf69 13).toInt := e96
        have e97 : (pf88 24).toInt = (pf69 24).toInt := e97
        have e98 : (pf88 25).toInt = (pf69 25).toInt := e98
        have e99 : (pf88 26).toInt = (pf69 26).toInt := e99
        have e100 : R_mp_takes 1 (lby "=") ta pf69 pf88 v90 := e100
        have lv90 := Int32.le_toInt v90
        have uv90 := Int32.toInt_lt v90
        refine lv_if_eq (tgt := 67) S.x S.b d_Mpg_enumeration_53 (by decide) (fun c101 => ?_) (fun c101 => ?_)
        · have nc101 : v90.toInt = (0 : Int) := (i_eq (x := v90) (y := 0)).mp c101
          refine lv_aload_n S.x S.b d_Mpg_enumeration_67 rfl (lv_at hl 1 rfl) ?_
          have hv_v73 := vl_con (c := (tf 6).toInt) (ma := ma71) (hi := (pf88 13).toInt) (D := 130) ⟨by omega, hf_14_v73, hf_15_v73, ⟨by omega, by omega⟩, hf_21_v73⟩ (show SoIs ta v54 1 by assumption) (by omega) hf_17_v73 (by omega) (lo := v73.toInt + 1) (oz_n (W := 0) (by decide) (by omega)) (by omega); have hn_hv_v73 := hv_v73.num fk_ok
          refine gP_17 S hT hw 0 rfl m10_1 d_Mpg_enumeration_68 ?_
          refine lv_iload_n S.x S.b d_Mpg_enumeration_71 rfl (lv_at hl 2 rfl) ?_
          refine lv_aload_n S.x S.b d_Mpg_enumeration_72 rfl (lv_at hl 1 rfl) ?_
          refine lv_aload_n S.x S.b d_Mpg_enumeration_73 rfl (lv_at hl 1 rfl) ?_
          refine gP_17 S hT hw 0 rfl m10_1 d_Mpg_enumeration_74 ?_
          refine lv_iload_n S.x S.b d_Mpg_enumeration_77 rfl (lv_at hl 2 rfl) ?_
          refine px_iald S hT hw 0 13 (n := 2100) (f := (na70 17)) rfl gp_17 (x := x31_1) (vp_in_iff.mpr (by first | exact oz_779f263daf k31_6 g4 g5 k31_4 e57 g2 e58 | (constructor <;> omega))) d_Mpg_enumeration_78 ?_
          refine lv_topi (fun z103 ez103 => ?_)
          have lz103 := Int32.le_toInt z103
          have uz103 := Int32.toInt_lt z103
          have hsz103 : b2 = z103 := (ez103.trans hf_17_x31_1).symm; subst hsz103
          refine lv_iload_n S.x S.b d_Mpg_enumeration_79 rfl (lv_at hl 3 rfl) ?_
          refine lv_iload S.x S.b d_Mpg_enumeration_80 (lv_at hl 0 rfl) ?_
          first | refine px_calli (pr := []) (px_runV (As := [.int b2, .int x31_2, .int v73]) (rest := [.int x31_1, .ref (r 17)]) S (c_mp_hang l D cs h r g tf ta pf88 ma71 wa_31 cf ca ef ea xf xa na70 b2 x31_2 v73  (show x31_2.toInt < 2100 from (oz_fa92019150 k31_11 k31_8 g5 e57 g2 e58)) htk _) hT (pr := []) (pcs := [wdP cs h r g tf ta pf88 na70 ma71 wa_31 cf ca ef ea xf xa]) hw px_X.tt (px_recv hT hw 0 0 rfl rfl rfl) m12_77 m12_74 m12_76 ms_10_4 m1_21 q_Mpg_hang ⟨show 0 + 1 ≤ (8 * 61 + 24) from by omega, show 8 + (4 + 11) + 0 ≤ (220 * 61 + 1120) from by omega⟩ hl.1 rfl (Nat.le_of_ble_eq_true rfl) d_Mpg_enumeration_82 ⟨Nat.le_of_ble_eq_true rfl, Nat.le_of_ble_eq_true rfl⟩) hw hA (fun v107 p106 H locs hp106 hw => ?_) | (refine px_calli (pr := []) (px_runV (As := [.int b2, .int x31_2, .int v73]) (rest := [.int x31_1, .ref (r 17)]) S (c_mp_hang l D cs h r g tf ta pf88 ma71 wa_31 cf ca ef ea xf xa na70 b2 x31_2 v73  (show x31_2.toInt < 2100 from by first | exact oz_fa92019150 k31_11 k31_8 g5 e57 g2 e58 | omega) htk _) hT (pr := []) (pcs := [wdP cs h r g tf ta pf88 na70 ma71 wa_31 cf ca ef ea xf xa]) hw px_X.tt (px_recv hT hw 0 0 rfl rfl rfl) m12_77 m12_74 m12_76 ms_10_4 m1_21 q_Mpg_hang ⟨show 0 + 1 ≤ (8 * 61 + 24) from by omega, show 8 + (4 + 11) + 0 ≤ (220 * 61 + 1120) from by omega⟩ hl.1 rfl (Nat.le_of_ble_eq_true rfl) d_Mpg_enumeration_82 ⟨Nat.le_of_ble_eq_true rfl, Nat.le_of_ble_eq_true rfl⟩) hw hA (fun v107 p106 H locs hp106 hw => ?_))
          obtain ⟨na105, rfl, e108, e109⟩ := hp106
          have e108 : Hg na70 na105 b2 x31_2 v73 v107 := e108
          have hf_14_x31_1 := (Hg.fld e108 (by omega) (by omega)).trans hf_14_x31_1
          have hf_15_x31_1 := (Hg.fld e108 (by omega) (by omega)).trans hf_15_x31_1
          have hf_21_x31_1 := (Hg.fld e108 (by omega) (by omega)).trans hf_21_x31_1
          have hf_17_x31_1 := (Hg.fld e108 (by omega) (by omega)).trans hf_17_x31_1
          have hrw_v73 := Hg.row e108 fk_ok hrw_x31_2 (VlV.le hv_v73 (by omega) (Int.le_refl _) (Int.le_refl _) (by omega)) (by omega) (by omega)
          have hn_hrw_v73 := hrw_v73.num
          have hfb := Hg.fb e108 hfb (by omega)
          have hfs := FsI.hg hfs e108
          have hzg := hzg.ag fg_ok (Hg.ag e108 (by omega))
          have e109 : R_mp_hang b2 x31_2 v73 na70 na105 v107 := e109
          have lv107 := Int32.le_toInt v107
          have uv107 := Int32.toInt_lt v107
          refine px_iast S hT hw 0 13 (n := 2100) (f := (na105 17)) (x := x31_1) (y := v107) rfl gp_17 (vp_in_iff.mpr (by constructor <;> omega)) d_Mpg_enumeration_85 (w' := wdP cs h r g tf ta pf88 (va_up na105 17 (upd (na105 17) x31_1.toNatClampNeg v107)) ma71 wa_31 cf ca ef ea xf xa) (ps' := [wdP cs h r g tf ta pf88 (va_up na105 17 (upd (na105 17) x31_1.toNatClampNeg v107)) ma71 wa_31 cf ca ef ea xf xa]) sp_17 rfl (fun H locs hw => ?_)
          obtain ⟨na110, hu_na110⟩ : ∃ y : Nat → Nat → Int32, y = va_up na105 17 (upd (na105 17) x31_1.toNatClampNeg v107) := ⟨_, rfl⟩
          have hw : pw D A s.heap _ _ [wdP cs h r g tf ta pf88 na110 ma71 wa_31 cf ca ef ea xf xa] := (by rw [hu_na110]; exact hw)
          have hrw_v73 := hrw_v73.ag fk_ok (ag_n hu_na110 (by omega) (by omega))
          have hf_14_x31_1 := (fl_n hu_na110 (by decide)).trans hf_14_x31_1
          have hf_15_x31_1 := (fl_n hu_na110 (by decide)).trans hf_15_x31_1
          have hf_21_x31_1 := (fl_n hu_na110 (by decide)).trans hf_21_x31_1
          have hf_17_x31_1 : na110 17 x31_1.toNatClampNeg = v107 := (by rw [hu_na110, va_up_s, pk_us])
          have hfs : FsI _ _ na110 := (by rw [hu_na110]; exact FsI.un hfs (by decide))
          have hfb : FrB 0 na ma na110 ma71 := (by rw [hu_na110]; exact FrB.un hfb (by omega) (by omega))
          have hzg := hzg.ag fg_ok (ag_n hu_na110 (by omega) (by omega))
          refine lv_iload S.x S.b d_Mpg_enumeration_86 (lv_at hl 0 rfl) ?_
          refine lv_istore_n (lv' := [(2, .int v73), (4, .int v73), (0, .ref h), (1, .int x31_1), (3, .int x31_3)]) S.x S.b d_Mpg_enumeration_88 rfl hl (by decide) rfl (fun ls hl => ?_)
          refine lv_aload_n S.x S.b d_Mpg_enumeration_89 rfl (lv_at hl 2 rfl) ?_
          obtain ⟨sk111, hRsk111, st112, hSsk111⟩ := oP_litB hP (k := 99) (tx := ",") (n := 1) (List.mem_of_getElem? (i := 41) rfl)
          refine va_ldcS S.x S.b S.own hRsk111 d_Mpg_enumeration_90 ?_
          first | refine px_calli (pr := []) (px_runV (As := [.ref sk111]) (rest := []) S (c_mp_takes l D cs sk111 1 (lby ",") h r g tf ta na110 ma71 wa_31 cf ca ef ea xf xa pf88   (show 0 ≤ (pf88 11).toInt from (oz_b1ffee609c e92 e76 e91.1 g0 k31_4 e57)) (show (pf88 11).toInt < (tf 6).toInt from e93) (show (tf 6).toInt ≤ 2049 from g2) (show 1 ≤ 100 from by omega) htk _) hT (pr := []) (pcs := [wdP cs h r g tf ta pf88 na110 ma71 wa_31 cf ca ef ea xf xa]) hw (oX_call (P := (fun A U H => (oP A g U H) ∧ (StLt A sk111 1 (lby ",") U H))) (pr := []) (oG_and oG_P oG_QB) hw hA ⟨hP, ⟨_, hSsk111⟩⟩) (px_recv hT hw 0 0 rfl rfl rfl) m12_6 m12_3 m12_5 ms_9_3 m1_21 q_Mpg_takes ⟨show 4 + 1 ≤ (8 * 61 + 24) from by omega, show 8 + (3 + 11) + 160 ≤ (220 * 61 + 1120) from by omega⟩ hl.1 rfl (Nat.le_of_ble_eq_true rfl) d_Mpg_enumeration_92 ⟨Nat.le_of_ble_eq_true rfl, Nat.le_of_ble_eq_true rfl⟩) hw hA (fun v117 p116 H locs hp116 hw => ?_) | (refine px_calli (pr := []) (px_runV (As := [.ref sk111]) (rest := []) S (c_mp_takes l D cs sk111 1 (lby ",") h r g tf ta na110 ma71 wa_31 cf ca ef ea xf xa pf88   (show 0 ≤ (pf88 11).toInt from by first | exact oz_b1ffee609c e92 e76 e91.1 g0 k31_4 e57 | omega) (show (pf88 11).toInt < (tf 6).toInt from by first | exact e93 | omega) (show (tf 6).toInt ≤ 2049 from by first | exact g2 | omega) (show 1 ≤ 100 from by omega) htk _) hT (pr := []) (pcs := [wdP cs h r g tf ta pf88 na110 ma71 wa_31 cf ca ef ea xf xa]) hw (oX_call (P := (fun A U H => (oP A g U H) ∧ (StLt A sk111 1 (lby ",") U H))) (pr := []) (oG_and oG_P oG_QB) hw hA ⟨hP, ⟨_, hSsk111⟩⟩) (px_recv hT hw 0 0 rfl rfl rfl) m12_6 m12_3 m12_5 ms_9_3 m1_21 q_Mpg_takes ⟨show 4 + 1 ≤ (8 * 61 + 24) from by omega, show 8 + (3 + 11) + 160 ≤ (220 * 61 + 1120) from by omega⟩ hl.1 rfl (Nat.le_of_ble_eq_true rfl) d_Mpg_enumeration_92 ⟨Nat.le_of_ble_eq_true rfl, Nat.le_of_ble_eq_true rfl⟩) hw hA (fun v117 p116 H locs hp116 hw => ?_))
          obtain ⟨pf115, rfl, e118, e119, e120, e121, e122, e123, e124, e125, e126, e127⟩ := hp116
          have e118 := z_rng e118
          have e119 : (pf115 11).toInt = (pf88 11).toInt + v117.toInt := e119
          have e120 : (pf115 11).toInt < (tf 6).toInt := e120
          have e121 : bp ta (pf88 11) + v117.toInt ≤ bp ta (pf115 11) := e121
          have e122 : (pf115 12).toInt = (pf88 12).toInt := e122
          have e123 : (pf115 13).toInt = (pf88 13).toInt := e123
          have e124 : (pf115 24).toInt = (pf88 24).toInt := e124
          have e125 : (pf115 25).toInt = (pf88 25).toInt := e125
          have e126 : (pf115 26).toInt = (pf88 26).toInt := e126
          have e127 : R_mp_takes 1 (lby ",") ta pf88 pf115 v117 := e127
          have lv117 := Int32.le_toInt v117
          have uv117 := Int32.toInt_lt v117
          refine lv_istore_n (lv' := [(3, .int v117), (2, .int v73), (4, .int v73), (0, .ref h), (1, .int x31_1)]) S.x S.b d_Mpg_enumeration_95 rfl hl (by decide) rfl (fun ls hl => ?_)
          refine lv_goto (tgt := 31) S.x S.b d_Mpg_enumeration_96 (by decide) ?_
          first | exact ih31 pf115 na110 ma71 wa_31 x31_1 v73 v117 _ _ ls (show (pf115 12).toInt = 1 from (oz_b0dd40d105 e122 e95 e77 e60 k31_0)) (show (pf115 26).toInt = 0 from (oz_79fbce337c e126 e99 e80 e64 k31_1)) (show (pf115 24).toInt = (pf 24).toInt from (oz_0867352dd7 k31_2 e124 e62 e97 e78)) (show (pf115 25).toInt = (pf 25).toInt from (oz_0867352dd7 k31_3 e125 e63 e98 e79)) (show (pf 11).toInt + 2 ≤ (pf115 11).toInt from (oz_9accb9079f k31_4 e119 e57 e92 e118.1 e76 e91.1)) (show (pf115 11).toInt < (tf 6).toInt from e120) (show x31_1.toInt = (pf 13).toInt from k31_6) (show x31_1.toInt < (pf115 13).toInt from (oz_eca898f282 k31_7 e123 e61 e96 e75)) (show (pf115 13).toInt - (pf 13).toInt ≤ (pf115 11).toInt - (pf 11).toInt from (oz_5ba3dd379f k31_8 e119 e123 e57 e61 e92 e96 e118.1 e75 e76 e91.1)) (show bp ta (pf 11) + 2 ≤ bp ta (pf115 11) from (oz_f5dc7dbaba k31_9 e121 e59 e94 e118.1 qb831 e91.1)) (show v73.toInt = -1 ∨ x31_1.toInt + 1 ≤ v73.toInt from by omega) (show v73.toInt < (pf115 13).toInt from (oz_01862000b2 e74 e123 e75 e96)) (show 0 ≤ v117.toInt from e118.1) (show v117.toInt ≤ 1 from e118.2) (show FrB 0 na ma na110 ma71 from hfb) (show FrW (pf 26).toInt wa wa_31 from hfw) (show NdF (tf 6).toInt na110 x31_1 43 (pf 11) from ⟨(oz_f3ebed1ad0 k31_6 g4), hf_14_x31_1, hf_15_x31_1, ⟨g0, g1⟩, hf_21_x31_1⟩) (show ZfK ta (tf 6).toInt na110 ma71 (na110 17) x31_1 v73 (x31_1.toInt + 1) (pf115 13).toInt (3 * (bp ta (pf115 11) - bp ta (pf 11)) - 3 * v117.toInt) 130 from ⟨_, hf_17_x31_1, Or.inr (RwV.le hrw_v73 (by omega) (by omega) (by omega) (by omega))⟩) (show RzG ta (tf 6).toInt na110 ma71 (pf 24) (pf 25) 0 (pf 13).toInt (3 * bp ta (pf 11)) 200 from (RzV.le (rz_eq hzg (by omega) (by omega)) (by omega) (by omega) (by omega) (by omega))) (show FsI (tf 6).toInt (pf115 13).toInt na110 from (FsI.le hfs (by omega))) (show K_mp_enumeration_31 ta pf na ma wa pf115 na110 ma71 wa_31 x31_1 v73 v117 from (fun y_f0 y_f1 y_f2 y_f3 y_t k hE => k31_20 y_f0 y_f1 y_f2 y_f3 y_t (k + 1) (Or.inr (Or.inl ⟨rfl, x31_1, x31_2, x31_3, rfl, rfl, rfl, rfl, rfl, b2, rq_b2, Or.inr ⟨nc3, Or.inr ⟨pf52, v54, e65, pf69, na70, ma71, v73, e82, pf88, v90, e100, Or.inl ⟨nc101, b2, ez103, na105, v107, e109, na110, hu_na110, pf115, v117, e127, hE⟩⟩⟩⟩)))) (show 2 * ((tf 6).toInt - (pf115 11).toInt) + v117.toInt < (n_31 : Int) from (oz_0a76174abd hm e118.1 e119 k31_12 e57 e76 e92 e91.1)) hw (lv_sub hl [3, 4, 1, 0] rfl) | (exact ih31 pf115 na110 ma71 wa_31 x31_1 v73 v117 _ _ ls (show (pf115 12).toInt = 1 from by first | exact oz_b0dd40d105 e122 e95 e77 e60 k31_0 | omega) (show (pf115 26).toInt = 0 from by first | exact oz_79fbce337c e126 e99 e80 e64 k31_1 | omega) (show (pf115 24).toInt = (pf 24).toInt from by first | exact oz_0867352dd7 k31_2 e124 e62 e97 e78 | omega) (show (pf115 25).toInt = (pf 25).toInt from by first | exact oz_0867352dd7 k31_3 e125 e63 e98 e79 | omega) (show (pf 11).toInt + 2 ≤ (pf115 11).toInt from by first | exact oz_9accb9079f k31_4 e119 e57 e92 e118.1 e76 e91.1 | omega) (show (pf115 11).toInt < (tf 6).toInt from by first | exact e120 | omega) (show x31_1.toInt = (pf 13).toInt from by first | exact k31_6 | omega) (show x31_1.toInt < (pf115 13).toInt from by first | exact oz_eca898f282 k31_7 e123 e61 e96 e75 | omega) (show (pf115 13).toInt - (pf 13).toInt ≤ (pf115 11).toInt - (pf 11).toInt from by first | exact oz_5ba3dd379f k31_8 e119 e123 e57 e61 e92 e96 e118.1 e75 e76 e91.1 | omega) (show bp ta (pf 11) + 2 ≤ bp ta (pf115 11) from by first | exact oz_f5dc7dbaba k31_9 e121 e59 e94 e118.1 qb831 e91.1 | omega) (show v73.toInt = -1 ∨ x31_1.toInt + 1 ≤ v73.toInt from by omega) (show v73.toInt < (pf115 13).toInt from by first | exact oz_01862000b2 e74 e123 e75 e96 | omega) (show 0 ≤ v117.toInt from by first | exact e118.1 | omega) (show v117.toInt ≤ 1 from by first | exact e118.2 | omega) (show FrB 0 na ma na110 ma71 from hfb) (show FrW (pf 26).toInt wa wa_31 from hfw) (show NdF (tf 6).toInt na110 x31_1 43 (pf 11) from ⟨by first | exact oz_f3ebed1ad0 k31_6 g4 | omega, hf_14_x31_1, hf_15_x31_1, ⟨by first | exact g0 | omega, by first | exact g1 | omega⟩, hf_21_x31_1⟩) (show ZfK ta (tf 6).toInt na110 ma71 (na110 17) x31_1 v73 (x31_1.toInt + 1) (pf115 13).toInt (3 * (bp ta (pf115 11) - bp ta (pf 11)) - 3 * v117.toInt) 130 from ⟨_, hf_17_x31_1, Or.inr (RwV.le hrw_v73 (by omega) (by omega) (by omega) (by omega))⟩) (show RzG ta (tf 6).toInt na110 ma71 (pf 24) (pf 25) 0 (pf 13).toInt (3 * bp ta (pf 11)) 200 from (RzV.le (rz_eq hzg (by omega) (by omega)) (by omega) (by omega) (by omega) (by omega))) (show FsI (tf 6).toInt (pf115 13).toInt na110 from (FsI.le hfs (by omega))) (show K_mp_enumeration_31 ta pf na ma wa pf115 na110 ma71 wa_31 x31_1 v73 v117 from (fun y_f0 y_f1 y_f2 y_f3 y_t k hE => k31_20 y_f0 y_f1 y_f2 y_f3 y_t (k + 1) (Or.inr (Or.inl ⟨rfl, x31_1, x31_2, x31_3, rfl, rfl, rfl, rfl, rfl, b2, rq_b2, Or.inr ⟨nc3, Or.inr ⟨pf52, v54, e65, pf69, na70, ma71, v73, e82, pf88, v90, e100, Or.inl ⟨nc101, b2, ez103, na105, v107, e109, na110, hu_na110, pf115, v117, e127, hE⟩⟩⟩⟩)))) (show 2 * ((tf 6).toInt - (pf115 11).toInt) + v117.toInt < (n_31 : Int) from by first | exact oz_0a76174abd hm e118.1 e119 k31_12 e57 e76 e92 e91.1 | omega) hw (lv_sub hl [3, 4, 1, 0] rfl))
        · have nc101 : ¬ v90.toInt = (0 : Int) := mt (i_eq (x := v90) (y := 0)).mpr c101
          refine lv_aload_n S.x S.b d_Mpg_enumeration_56 rfl (lv_at hl 1 rfl) ?_
          refine gP_17 S hT hw 0 rfl m10_1 d_Mpg_enumeration_57 ?_
          refine lv_iload S.x S.b d_Mpg_enumeration_60 (lv_at hl 0 rfl) ?_
          refine lv_aload_n S.x S.b d_Mpg_enumeration_62 rfl (lv_at hl 1 rfl) ?_
          first | refine th_calli (ps0 := [wdP cs h r g tf ta pf na ma wa cf ca ef ea xf xa]) (pr := []) (pcs := [wdP cs h r g tf ta pf88 na70 ma71 wa_31 cf ca ef ea xf xa]) (As := []) (rest := [.int v73, .ref (r 17)]) (c_mp_constant l D cs h r g tf ta cf ca ef ea xf xa pf88 na70 ma71 wa_31  lv (show 0 ≤ (pf88 11).toInt from (oz_b1ffee609c e92 e76 e91.1 g0 k31_4 e57)) (show (pf88 11).toInt < (tf 6).toInt from e93) (show (tf 6).toInt ≤ 2049 from g2) (show 0 ≤ (pf88 12).toInt from (oz_e2bb57d886 e95 e77 e60 k31_0)) (show (pf88 12).toInt ≤ 60 from (oz_9bdc265ae5 e95 e77 e60 k31_0)) (show 0 ≤ (pf88 13).toInt from (oz_ad3061ceaa e96 e75 e61 k31_7 g4 k31_6)) (show (pf88 13).toInt ≤ (pf88 11).toInt + 10 from (oz_e4b089fc76 e92 e96 e75 e76 e91.1 g5 k31_8 e57 e61)) (show 0 ≤ (pf88 26).toInt from (oz_64b6d1b64d e99 e80 e64 k31_1)) (show (pf88 26).toInt ≤ (pf88 12).toInt from (oz_91a3c55eb7 e95 e99 e77 e80 e60 e64 k31_0 k31_1)) (show 61 ≤ (pf88 12).toInt + (lv : Int) from by omega) (show lv ≤ 61 from by omega) hlf htk (FsI.le (N' := (pf88 13).toInt) hfs (by omega))) S hT hw (oX_call (P := (fun A U H => (oN A U H) ∧ (oP A g U H))) (pr := []) (oG_and oG_N oG_P) hw hA ⟨hN, hP⟩) (px_recv hT hw 0 0 rfl rfl rfl) m12_10 m12_7 m12_9 ms_9_4 m1_21 q_Mpg_constant ⟨show (8 * lv + 21) + 1 ≤ (8 * 61 + 24) from by omega, show 8 + (2 + 11) + (220 * lv + 720) ≤ (220 * 61 + 1120) from by omega⟩ hl.1 rfl (Nat.le_of_ble_eq_true rfl) d_Mpg_enumeration_63 ⟨Nat.le_of_ble_eq_true rfl, Nat.le_of_ble_eq_true rfl⟩ hne hlk hA hAe (fun o t h => Or.inr h) ?_ (fun v137 p136 H locs hp136 hw => ?_) | (refine th_calli (ps0 := [wdP cs h r g tf ta pf na ma wa cf ca ef ea xf xa]) (pr := []) (pcs := [wdP cs h r g tf ta pf88 na70 ma71 wa_31 cf ca ef ea xf xa]) (As := []) (rest := [.int v73, .ref (r 17)]) (c_mp_constant l D cs h r g tf ta cf ca ef ea xf xa pf88 na70 ma71 wa_31  lv (show 0 ≤ (pf88 11).toInt from by first | exact oz_b1ffee609c e92 e76 e91.1 g0 k31_4 e57 | omega) (show (pf88 11).toInt < (tf 6).toInt from by first | exact e93 | omega) (show (tf 6).toInt ≤ 2049 from by first | exact g2 | omega) (show 0 ≤ (pf88 12).toInt from by first | exact oz_e2bb57d886 e95 e77 e60 k31_0 | omega) (show (pf88 12).toInt ≤ 60 from by first | exact oz_9bdc265ae5 e95 e77 e60 k31_0 | omega) (show 0 ≤ (pf88 13).toInt from by first | exact oz_ad3061ceaa e96 e75 e61 k31_7 g4 k31_6 | omega) (show (pf88 13).toInt ≤ (pf88 11).toInt + 10 from by first | exact oz_e4b089fc76 e92 e96 e75 e76 e91.1 g5 k31_8 e57 e61 | omega) (show 0 ≤ (pf88 26).toInt from by first | exact oz_64b6d1b64d e99 e80 e64 k31_1 | omega) (show (pf88 26).toInt ≤ (pf88 12).toInt from by first | exact oz_91a3c55eb7 e95 e99 e77 e80 e60 e64 k31_0 k31_1 | omega) (show 61 ≤ (pf88 12).toInt + (lv : Int) from by omega) (show lv ≤ 61 from by omega) hlf htk (FsI.le (N' := (pf88 13).toInt) hfs (by omega))) S hT hw (oX_call (P := (fun A U H => (oN A U H) ∧ (oP A g U H))) (pr := []) (oG_and oG_N oG_P) hw hA ⟨hN, hP⟩) (px_recv hT hw 0 0 rfl rfl rfl) m12_10 m12_7 m12_9 ms_9_4 m1_21 q_Mpg_constant ⟨show (8 * lv + 21) + 1 ≤ (8 * 61 + 24) from by omega, show 8 + (2 + 11) + (220 * lv + 720) ≤ (220 * 61 + 1120) from by omega⟩ hl.1 rfl (Nat.le_of_ble_eq_true rfl) d_Mpg_enumeration_63 ⟨Nat.le_of_ble_eq_true rfl, Nat.le_of_ble_eq_true rfl⟩ hne hlk hA hAe (fun o t h => Or.inr h) ?_ (fun v137 p136 H locs hp136 hw => ?_))
          · exact fun p1 H1 locs1 hp hw => by obtain ⟨pq1, pq2, pq3, pq4, rfl, hq1, hq2, hq3⟩ := hp; exact ⟨_, ⟨pq1, pq2, pq3, pq4, rfl, hq1, hq2, (k31_20 _ _ _ _ _ 1 (Or.inr (Or.inl ⟨rfl, x31_1, x31_2, x31_3, rfl, rfl, rfl, rfl, rfl, b2, rq_b2, Or.inr ⟨nc3, Or.inr ⟨pf52, v54, e65, pf69, na70, ma71, v73, e82, pf88, v90, e100, Or.inr ⟨nc101, Or.inl ⟨pq1, pq2, pq3, pq4, hq3, rfl, rfl, rfl, rfl, rfl⟩⟩⟩⟩⟩)))⟩, hw⟩
          obtain ⟨pf132, na133, ma134, wa135, rfl, e138, e139, e140, e141, e142, e143, e144, e145, e146, e147, e148, e149, e150, e151⟩ := hp136
          have e138 : (pf88 11).toInt + 1 ≤ (pf132 11).toInt := e138
          have e139 : (pf132 11).toInt < (tf 6).toInt := e139
          have e140 : (pf88 13).toInt + 1 ≤ (pf132 13).toInt := e140
          have e141 : (pf132 13).toInt - (pf88 13).toInt ≤ (pf132 11).toInt - (pf88 11).toInt := e141
          have e142 : bp ta (pf88 11) + 1 ≤ bp ta (pf132 11) := e142
          have e143 : (pf132 12).toInt = (pf88 12).toInt := e143
          have e144 : (pf132 24).toInt = (pf88 24).toInt := e144
          have e145 : (pf132 25).toInt = (pf88 25).toInt := e145
          have e146 : (pf132 26).toInt = (pf88 26).toInt := e146
          have e147 : FrB (pf88 13).toInt na70 ma71 na133 ma134 := e147
          have hf_14_x31_1 := (fb_n e147 (by omega) (by omega)).trans hf_14_x31_1
          have hf_15_x31_1 := (fb_n e147 (by omega) (by omega)).trans hf_15_x31_1
          have hf_21_x31_1 := (fb_n e147 (by omega) (by omega)).trans hf_21_x31_1
          have hf_17_x31_1 := (fb_n e147 (by omega) (by omega)).trans hf_17_x31_1
          have hf_14_v73 := (fb_n e147 (by omega) (by omega)).trans hf_14_v73
          have hf_15_v73 := (fb_n e147 (by omega) (by omega)).trans hf_15_v73
          have hf_17_v73 := (fb_n e147 (by omega) (by omega)).trans hf_17_v73
          have hf_21_v73 := (fb_n e147 (by omega) (by omega)).trans hf_21_v73
          have hrw_x31_2 := hrw_x31_2.ag fk_ok (FrB.ag e147 (by omega))
          have hzg := hzg.ag fg_ok (FrB.ag e147 (by omega))
          have hfb := hfb.tr e147 (by omega)
          have e148 : FrW (pf88 26).toInt wa_31 wa135 := e148
          have hfw := hfw.tr e148 (by omega)
          have e149 : ExR ta (tf 6).toInt na133 ma134 v137 (pf88 13).toInt (pf132 13).toInt (3 * (bp ta (pf132 11) - bp ta (pf88 11))) (pf88 12).toInt := e149
          have ht_v137 := e149
          have hn_ht_v137 := ht_v137.num
          have e150 : FsI (tf 6).toInt (pf132 13).toInt na133 := e150
          have hfs := e150
          have e151 : R_mp_constant ta pf88 na70 ma71 wa_31 pf132 na133 ma134 wa135 v137 0 := e151
          have lv137 := Int32.le_toInt v137
          have uv137 := Int32.toInt_lt v137
          refine px_iast S hT hw 0 13 (n := 2100) (f := (na133 17)) (x := v73) (y := v137) rfl gp_17 (vp_in_iff.mpr (by constructor <;> omega)) d_Mpg_enumeration_66 (w' := wdP cs h r g tf ta pf132 (va_up na133 17 (upd (na133 17) v73.toNatClampNeg v137)) ma134 wa135 cf ca ef ea xf xa) (ps' := [wdP cs h r g tf ta pf132 (va_up na133 17 (upd (na133 17) v73.toNatClampNeg v137)) ma134 wa135 cf ca ef ea xf xa]) sp_17 rfl (fun H locs hw => ?_)
          obtain ⟨na152, hu_na152⟩ : ∃ y : Nat → Nat → Int32, y = va_up na133 17 (upd (na133 17) v73.toNatClampNeg v137) := ⟨_, rfl⟩
          have hw : pw D A s.heap _ _ [wdP cs h r g tf ta pf132 na152 ma134 wa135 cf ca ef ea xf xa] := (by rw [hu_na152]; exact hw)
          obtain ⟨ht_v137, hdq_v137⟩ := ht_v137.ag (ag_n hu_na152 (by omega) (by omega)) (by omega)
          have hn_ht_v137 := ht_v137.num
          have hrw_x31_2 := hrw_x31_2.ag fk_ok (ag_n hu_na152 (by omega) (by omega))
          have hf_14_x31_1 := (fl_n hu_na152 (by decide)).trans hf_14_x31_1
          have hf_15_x31_1 := (fl_n hu_na152 (by decide)).trans hf_15_x31_1
          have hf_21_x31_1 := (fl_n hu_na152 (by decide)).trans hf_21_x31_1
          have hf_17_x31_1 := (fl_f hu_na152 (by omega) (by omega) (by omega)).trans hf_17_x31_1
          have hf_14_v73 := (fl_n hu_na152 (by decide)).trans hf_14_v73
          have hf_15_v73 := (fl_n hu_na152 (by decide)).trans hf_15_v73
          have hf_21_v73 := (fl_n hu_na152 (by decide)).trans hf_21_v73
          have hf_17_v73 : na152 17 v73.toNatClampNeg = v137 := (by rw [hu_na152, va_up_s, pk_us])
          have hfs : FsI _ _ na152 := (by rw [hu_na152]; exact FsI.un hfs (by decide))
          have hfb : FrB 0 na ma na152 ma134 := (by rw [hu_na152]; exact FrB.un hfb (by omega) (by omega))
          have hzg := hzg.ag fg_ok (ag_n hu_na152 (by omega) (by omega))
          refine lv_aload_n S.x S.b d_Mpg_enumeration_67 rfl (lv_at hl 1 rfl) ?_
          have hv_v73 := vl_con (c := (tf 6).toInt) (ma := ma134) (hi := (pf132 13).toInt) (D := 130) ⟨by omega, hf_14_v73, hf_15_v73, ⟨by omega, by omega⟩, hf_21_v73⟩ (show SoIs ta v54 1 by assumption) (by omega) hf_17_v73 (by omega) (lo := v73.toInt + 1) (oz_v fe_ok (VlV.le (exr_vl ht_v137 (by omega)) (by omega) (by omega) (Int.le_refl _) (by omega))) (by omega); have hn_hv_v73 := hv_v73.num fk_ok
          refine gP_17 S hT hw 0 rfl m10_1 d_Mpg_enumeration_68 ?_
          refine lv_iload_n S.x S.b d_Mpg_enumeration_71 rfl (lv_at hl 2 rfl) ?_
          refine lv_aload_n S.x S.b d_Mpg_enumeration_72 rfl (lv_at hl 1 rfl) ?_
          refine lv_aload_n S.x S.b d_Mpg_enumeration_73 rfl (lv_at hl 1 rfl) ?_
          refine gP_17 S hT hw 0 rfl m10_1 d_Mpg_enumeration_74 ?_
          refine lv_iload_n S.x S.b d_Mpg_enumeration_77 rfl (lv_at hl 2 rfl) ?_
          refine px_iald S hT hw 0 13 (n := 2100) (f := (na152 17)) rfl gp_17 (x := x31_1) (vp_in_iff.mpr (by first | exact oz_779f263daf k31_6 g4 g5 k31_4 e57 g2 e58 | (constructor <;> omega))) d_Mpg_enumeration_78 ?_
          refine lv_topi (fun z153 ez153 => ?_)
          have lz153 := Int32.le_toInt z153
          have uz153 := Int32.toInt_lt z153
          have hsz153 : b2 = z153 := (ez153.trans hf_17_x31_1).symm; subst hsz153
          refine lv_iload_n S.x S.b d_Mpg_enumeration_79 rfl (lv_at hl 3 rfl) ?_
          refine lv_iload S.x S.b d_Mpg_enumeration_80 (lv_at hl 0 rfl) ?_
          first | refine px_calli (pr := []) (px_runV (As := [.int b2, .int x31_2, .int v73]) (rest := [.int x31_1, .ref (r 17)]) S (c_mp_hang l D cs h r g tf ta pf132 ma134 wa135 cf ca ef ea xf xa na152 b2 x31_2 v73  (show x31_2.toInt < 2100 from (oz_fa92019150 k31_11 k31_8 g5 e57 g2 e58)) htk _) hT (pr := []) (pcs := [wdP cs h r g tf ta pf132 na152 ma134 wa135 cf ca ef ea xf xa]) hw px_X.tt (px_recv hT hw 0 0 rfl rfl rfl) m12_77 m12_74 m12_76 ms_10_4 m1_21 q_Mpg_hang ⟨show 0 + 1 ≤ (8 * 61 + 24) from by omega, show 8 + (4 + 11) + 0 ≤ (220 * 61 + 1120) from by omega⟩ hl.1 rfl (Nat.le_of_ble_eq_true rfl) d_Mpg_enumeration_82 ⟨Nat.le_of_ble_eq_true rfl, Nat.le_of_ble_eq_true rfl⟩) hw hA (fun v157 p156 H locs hp156 hw => ?_) | (refine px_calli (pr := []) (px_runV (As := [.int b2, .int x31_2, .int v73]) (rest := [.int x31_1, .ref (r 17)]) S (c_mp_hang l D cs h r g tf ta pf132 ma134 wa135 cf ca ef ea xf xa na152 b2 x31_2 v73  (show x31_2.toInt < 2100 from by first | exact oz_fa92019150 k31_11 k31_8 g5 e57 g2 e58 | omega) htk _) hT (pr := []) (pcs := [wdP cs h r g tf ta pf132 na152 ma134 wa135 cf ca ef ea xf xa]) hw px_X.tt (px_recv hT hw 0 0 rfl rfl rfl) m12_77 m12_74 m12_76 ms_10_4 m1_21 q_Mpg_hang ⟨show 0 + 1 ≤ (8 * 61 + 24) from by omega, show 8 + (4 + 11) + 0 ≤ (220 * 61 + 1120) from by omega⟩ hl.1 rfl (Nat.le_of_ble_eq_true rfl) d_Mpg_enumeration_82 ⟨Nat.le_of_ble_eq_true rfl, Nat.le_of_ble_eq_true rfl⟩) hw hA (fun v157 p156 H locs hp156 hw => ?_))
          obtain ⟨na155, rfl, e158, e159⟩ := hp156
          have e158 : Hg na152 na155 b2 x31_2 v73 v157 := e158
          have hf_14_x31_1 := (Hg.fld e158 (by omega) (by omega)).trans hf_14_x31_1
          have hf_15_x31_1 := (Hg.fld e158 (by omega) (by omega)).trans hf_15_x31_1
          have hf_21_x31_1 := (Hg.fld e158 (by omega) (by omega)).trans hf_21_x31_1
          have hf_17_x31_1 := (Hg.fld e158 (by omega) (by omega)).trans hf_17_x31_1
          have hrw_v73 := Hg.row e158 fk_ok hrw_x31_2 (VlV.le hv_v73 (by omega) (Int.le_refl _) (Int.le_refl _) (by omega)) (by omega) (by omega)
          have hn_hrw_v73 := hrw_v73.num
          have hfb := Hg.fb e158 hfb (by omega)
          have hfs := FsI.hg hfs e158
          have hzg := hzg.ag fg_ok (Hg.ag e158 (by omega))
          have e159 : R_mp_hang b2 x31_2 v73 na152 na155 v157 := e159
          have lv157 := Int32.le_toInt v157
          have uv157 := Int32.toInt_lt v157
          refine px_iast S hT hw 0 13 (n := 2100) (f := (na155 17)) (x := x31_1) (y := v157) rfl gp_17 (vp_in_iff.mpr (by constructor <;> omega)) d_Mpg_enumeration_85 (w' := wdP cs h r g tf ta pf132 (va_up na155 17 (upd (na155 17) x31_1.toNatClampNeg v157)) ma134 wa135 cf ca ef ea xf xa) (ps' := [wdP cs h r g tf ta pf132 (va_up na155 17 (upd (na155 17) x31_1.toNatClampNeg v157)) ma134 wa135 cf ca ef ea xf xa]) sp_17 rfl (fun H locs hw => ?_)
          obtain ⟨na160, hu_na160⟩ : ∃ y : Nat → Nat → Int32, y = va_up na155 17 (upd (na155 17) x31_1.toNatClampNeg v157) := ⟨_, rfl⟩
          have hw : pw D A s.heap _ _ [wdP cs h r g tf ta pf132 na160 ma134 wa135 cf ca ef ea xf xa] := (by rw [hu_na160]; exact hw)
          have hrw_v73 := hrw_v73.ag fk_ok (ag_n hu_na160 (by omega) (by omega))
          have hf_14_x31_1 := (fl_n hu_na160 (by decide)).trans hf_14_x31_1
          have hf_15_x31_1 := (fl_n hu_na160 (by decide)).trans hf_15_x31_1
          have hf_21_x31_1 := (fl_n hu_na160 (by decide)).trans hf_21_x31_1
          have hf_17_x31_1 : na160 17 x31_1.toNatClampNeg = v157 := (by rw [hu_na160, va_up_s, pk_us])
          have hfs : FsI _ _ na160 := (by rw [hu_na160]; exact FsI.un hfs (by decide))
          have hfb : FrB 0 na ma na160 ma134 := (by rw [hu_na160]; exact FrB.un hfb (by omega) (by omega))
          have hzg := hzg.ag fg_ok (ag_n hu_na160 (by omega) (by omega))
          refine lv_iload S.x S.b d_Mpg_enumeration_86 (lv_at hl 0 rfl) ?_
          refine lv_istore_n (lv' := [(2, .int v73), (4, .int v73), (0, .ref h), (1, .int x31_1), (3, .int x31_3)]) S.x S.b d_Mpg_enumeration_88 rfl hl (by decide) rfl (fun ls hl => ?_)
          refine lv_aload_n S.x S.b d_Mpg_enumeration_89 rfl (lv_at hl 2 rfl) ?_
          obtain ⟨sk161, hRsk161, st162, hSsk161⟩ := oP_litB hP (k := 99) (tx := ",") (n := 1) (List.mem_of_getElem? (i := 41) rfl)
          refine va_ldcS S.x S.b S.own hRsk161 d_Mpg_enumeration_90 ?_
          first | refine px_calli (pr := []) (px_runV (As := [.ref sk161]) (rest := []) S (c_mp_takes l D cs sk161 1 (lby ",") h r g tf ta na160 ma134 wa135 cf ca ef ea xf xa pf132   (show 0 ≤ (pf132 11).toInt from (oz_f3b7cb1671 e138 e92 g0 k31_4 e57 e76 e91.1)) (show (pf132 11).toInt < (tf 6).toInt from e139) (show (tf 6).toInt ≤ 2049 from g2) (show 1 ≤ 100 from by omega) htk _) hT (pr := []) (pcs := [wdP cs h r g tf ta pf132 na160 ma134 wa135 cf ca ef ea xf xa]) hw (oX_call (P := (fun A U H => (oP A g U H) ∧ (StLt A sk161 1 (lby ",") U H))) (pr := []) (oG_and oG_P oG_QB) hw hA ⟨hP, ⟨_, hSsk161⟩⟩) (px_recv hT hw 0 0 rfl rfl rfl) m12_6 m12_3 m12_5 ms_9_3 m1_21 q_Mpg_takes ⟨show 4 + 1 ≤ (8 * 61 + 24) from by omega, show 8 + (3 + 11) + 160 ≤ (220 * 61 + 1120) from by omega⟩ hl.1 rfl (Nat.le_of_ble_eq_true rfl) d_Mpg_enumeration_92 ⟨Nat.le_of_ble_eq_true rfl, Nat.le_of_ble_eq_true rfl⟩) hw hA (fun v167 p166 H locs hp166 hw => ?_) | (refine px_calli (pr := []) (px_runV (As := [.ref sk161]) (rest := []) S (c_mp_takes l D cs sk161 1 (lby ",") h r g tf ta na160 ma134 wa135 cf ca ef ea xf xa pf132   (show 0 ≤ (pf132 11).toInt from by first | exact oz_f3b7cb1671 e138 e92 g0 k31_4 e57 e76 e91.1 | omega) (show (pf132 11).toInt < (tf 6).toInt from by first | exact e139 | omega) (show (tf 6).toInt ≤ 2049 from by first | exact g2 | omega) (show 1 ≤ 100 from by omega) htk _) hT (pr := []) (pcs := [wdP cs h r g tf ta pf132 na160 ma134 wa135 cf ca ef ea xf xa]) hw (oX_call (P := (fun A U H => (oP A g U H) ∧ (StLt A sk161 1 (lby ",") U H))) (pr := []) (oG_and oG_P oG_QB) hw hA ⟨hP, ⟨_, hSsk161⟩⟩) (px_recv hT hw 0 0 rfl rfl rfl) m12_6 m12_3 m12_5 ms_9_3 m1_21 q_Mpg_takes ⟨show 4 + 1 ≤ (8 * 61 + 24) from by omega, show 8 + (3 + 11) + 160 ≤ (220 * 61 + 1120) from by omega⟩ hl.1 rfl (Nat.le_of_ble_eq_true rfl) d_Mpg_enumeration_92 ⟨Nat.le_of_ble_eq_true rfl, Nat.le_of_ble_eq_true rfl⟩) hw hA (fun v167 p166 H locs hp166 hw => ?_))
          obtain ⟨pf165, rfl, e168, e169, e170, e171, e172, e173, e174, e175, e176, e177⟩ := hp166
          have e168 := z_rng e168
          have e169 : (pf165 11).toInt = (pf132 11).toInt + v167.toInt := e169
          have e170 : (pf165 11).toInt < (tf 6).toInt := e170
          have e171 : bp ta (pf132 11) + v167.toInt ≤ bp ta (pf165 11) := e171
          have e172 : (pf165 12).toInt = (pf132 12).toInt := e172
          have e173 : (pf165 13).toInt = (pf132 13).toInt := e173
          have e174 : (pf165 24).toInt = (pf132 24).toInt := e174
          have e175 : (pf165 25).toInt = (pf132 25).toInt := e175
          have e176 : (pf165 26).toInt = (pf132 26).toInt := e176
          have e177 : R_mp_takes 1 (lby ",") ta pf132 pf165 v167 := e177
          have lv167 := Int32.le_toInt v167
          have uv167 := Int32.toInt_lt v167
          refine lv_istore_n (lv' := [(3, .int v167), (2, .int v73), (4, .int v73), (0, .ref h), (1, .int x31_1)]) S.x S.b d_Mpg_enumeration_95 rfl hl (by decide) rfl (fun ls hl => ?_)
          refine lv_goto (tgt := 31) S.x S.b d_Mpg_enumeration_96 (by decide) ?_
          first | exact ih31 pf165 na160 ma134 wa135 x31_1 v73 v167 _ _ ls (show (pf165 12).toInt = 1 from (oz_cbada833cc e172 e143 e95 e77 e60 k31_0)) (show (pf165 26).toInt = 0 from (oz_13e43d3d4c e176 e146 e99 e80 e64 k31_1)) (show (pf165 24).toInt = (pf 24).toInt from (oz_a783471c71 k31_2 e174 e62 e144 e78 e97)) (show (pf165 25).toInt = (pf 25).toInt from (oz_a783471c71 k31_3 e175 e63 e145 e79 e98)) (show (pf 11).toInt + 2 ≤ (pf165 11).toInt from (oz_036f9dfa45 k31_4 e169 e57 e138 e168.1 e76 e92 e91.1)) (show (pf165 11).toInt < (tf 6).toInt from e170) (show x31_1.toInt = (pf 13).toInt from k31_6) (show x31_1.toInt < (pf165 13).toInt from (oz_3306f37a38 k31_7 e173 e61 e140 e75 e96)) (show (pf165 13).toInt - (pf 13).toInt ≤ (pf165 11).toInt - (pf 11).toInt from (oz_b18aec998c k31_8 e169 e173 e57 e61 e141 e168.1 e75 e76 e92 e96 e91.1)) (show bp ta (pf 11) + 2 ≤ bp ta (pf165 11) from (oz_8300a8d446 k31_9 e171 e59 e142 e168.1 qb831 e94 e91.1)) (show v73.toInt = -1 ∨ x31_1.toInt + 1 ≤ v73.toInt from by omega) (show v73.toInt < (pf165 13).toInt from (oz_59e62d555c e74 e173 e75 e140 e96)) (show 0 ≤ v167.toInt from e168.1) (show v167.toInt ≤ 1 from e168.2) (show FrB 0 na ma na160 ma134 from hfb) (show FrW (pf 26).toInt wa wa135 from hfw) (show NdF (tf 6).toInt na160 x31_1 43 (pf 11) from ⟨(oz_f3ebed1ad0 k31_6 g4), hf_14_x31_1, hf_15_x31_1, ⟨g0, g1⟩, hf_21_x31_1⟩) (show ZfK ta (tf 6).toInt na160 ma134 (na160 17) x31_1 v73 (x31_1.toInt + 1) (pf165 13).toInt (3 * (bp ta (pf165 11) - bp ta (pf 11)) - 3 * v167.toInt) 130 from ⟨_, hf_17_x31_1, Or.inr (RwV.le hrw_v73 (by omega) (by omega) (by omega) (by omega))⟩) (show RzG ta (tf 6).toInt na160 ma134 (pf 24) (pf 25) 0 (pf 13).toInt (3 * bp ta (pf 11)) 200 from (RzV.le (rz_eq hzg (by omega) (by omega)) (by omega) (by omega) (by omega) (by omega))) (show FsI (tf 6).toInt (pf165 13).toInt na160 from (FsI.le hfs (by omega))) (show K_mp_enumeration_31 ta pf na ma wa pf165 na160 ma134 wa135 x31_1 v73 v167 from (fun y_f0 y_f1 y_f2 y_f3 y_t k hE => k31_20 y_f0 y_f1 y_f2 y_f3 y_t (k + 1) (Or.inr (Or.inl ⟨rfl, x31_1, x31_2, x31_3, rfl, rfl, rfl, rfl, rfl, b2, rq_b2, Or.inr ⟨nc3, Or.inr ⟨pf52, v54, e65, pf69, na70, ma71, v73, e82, pf88, v90, e100, Or.inr ⟨nc101, Or.inr ⟨pf132, na133, ma134, wa135, v137, e151, na152, hu_na152, b2, ez153, na155, v157, e159, na160, hu_na160, pf165, v167, e177, hE⟩⟩⟩⟩⟩)))) (show 2 * ((tf 6).toInt - (pf165 11).toInt) + v167.toInt < (n_31 : Int) from (oz_706ac834a3 hm e168.1 e169 k31_12 e57 e76 e92 e138 e91.1)) hw (lv_sub hl [3, 4, 1, 0] rfl) | (exact ih31 pf165 na160 ma134 wa135 x31_1 v73 v167 _ _ ls (show (pf165 12).toInt = 1 from by first | exact oz_cbada833cc e172 e143 e95 e77 e60 k31_0 | omega) (show (pf165 26).toInt = 0 from by first | exact oz_13e43d3d4c e176 e146 e99 e80 e64 k31_1 | omega) (show (pf165 24).toInt = (pf 24).toInt from by first | exact oz_a783471c71 k31_2 e174 e62 e144 e78 e97 | omega) (show (pf165 25).toInt = (pf 25).toInt from by first | exact oz_a783471c71 k31_3 e175 e63 e145 e79 e98 | omega) (show (pf 11).toInt + 2 ≤ (pf165 11).toInt from by first | exact oz_036f9dfa45 k31_4 e169 e57 e138 e168.1 e76 e92 e91.1 | omega) (show (pf165 11).toInt < (tf 6).toInt from by first | exact e170 | omega) (show x31_1.toInt = (pf 13).toInt from by first | exact k31_6 | omega) (show x31_1.toInt < (pf165 13).toInt from by first | exact oz_3306f37a38 k31_7 e173 e61 e140 e75 e96 | omega) (show (pf165 13).toInt - (pf 13).toInt ≤ (pf165 11).toInt - (pf 11).toInt from by first | exact oz_b18aec998c k31_8 e169 e173 e57 e61 e141 e168.1 e75 e76 e92 e96 e91.1 | omega) (show bp ta (pf 11) + 2 ≤ bp ta (pf165 11) from by first | exact oz_8300a8d446 k31_9 e171 e59 e142 e168.1 qb831 e94 e91.1 | omega) (show v73.toInt = -1 ∨ x31_1.toInt + 1 ≤ v73.toInt from by omega) (show v73.toInt < (pf165 13).toInt from by first | exact oz_59e62d555c e74 e173 e75 e140 e96 | omega) (show 0 ≤ v167.toInt from by first | exact e168.1 | omega) (show v167.toInt ≤ 1 from by first | exact e168.2 | omega) (show FrB 0 na ma na160 ma134 from hfb) (show FrW (pf 26).toInt wa wa135 from hfw) (show NdF (tf 6).toInt na160 x31_1 43 (pf 11) from ⟨by first | exact oz_f3ebed1ad0 k31_6 g4 | omega, hf_14_x31_1, hf_15_x31_1, ⟨by first | exact g0 | omega, by first | exact g1 | omega⟩, hf_21_x31_1⟩) (show ZfK ta (tf 6).toInt na160 ma134 (na160 17) x31_1 v73 (x31_1.toInt + 1) (pf165 13).toInt (3 * (bp ta (pf165 11) - bp ta (pf 11)) - 3 * v167.toInt) 130 from ⟨_, hf_17_x31_1, Or.inr (RwV.le hrw_v73 (by omega) (by omega) (by omega) (by omega))⟩) (show RzG ta (tf 6).toInt na160 ma134 (pf 24) (pf 25) 0 (pf 13).toInt (3 * bp ta (pf 11)) 200 from (RzV.le (rz_eq hzg (by omega) (by omega)) (by omega) (by omega) (by omega) (by omega))) (show FsI (tf 6).toInt (pf165 13).toInt na160 from (FsI.le hfs (by omega))) (show K_mp_enumeration_31 ta pf na ma wa pf165 na160 ma134 wa135 x31_1 v73 v167 from (fun y_f0 y_f1 y_f2 y_f3 y_t k hE => k31_20 y_f0 y_f1 y_f2 y_f3 y_t (k + 1) (Or.inr (Or.inl ⟨rfl, x31_1, x31_2, x31_3, rfl, rfl, rfl, rfl, rfl, b2, rq_b2, Or.inr ⟨nc3, Or.inr ⟨pf52, v54, e65, pf69, na70, ma71, v73, e82, pf88, v90, e100, Or.inr ⟨nc101, Or.inr ⟨pf132, na133, ma134, wa135, v137, e151, na152, hu_na152, b2, ez153, na155, v157, e159, na160, hu_na160, pf165, v167, e177, hE⟩⟩⟩⟩⟩)))) (show 2 * ((tf 6).toInt - (pf165 11).toInt) + v167.toInt < (n_31 : Int) from by first | exact oz_706ac834a3 hm e168.1 e169 k31_12 e57 e76 e92 e138 e91.1 | omega) hw (lv_sub hl [3, 4, 1, 0] rfl))
  refine lv_aload_n S.x S.b d_Mpg_enumeration_0 rfl (lv_at hl 0 rfl) ?_
  refine lv_bipush (v := 43) S.x S.b d_Mpg_enumeration_1 (by decide) ?_
  refine lv_aload_n S.x S.b d_Mpg_enumeration_3 rfl (lv_at hl 0 rfl) ?_
  refine gP_11 (v := (pf 11)) S hT hw 0 rfl rfl m9_235 d_Mpg_enumeration_4 ?_
  first | refine px_calli (pr := []) (px_runV (As := [.int 43, .int (pf 11)]) (rest := []) S (c_mp_make l D cs h r g tf ta wa cf ca ef ea xf xa pf na ma 43 (pf 11)  (show 0 ≤ (pf 13).toInt from g4) (show (pf 13).toInt < 2100 from (oz_1fa6c9b1b7 g5 g9 g2)) _) hT (pr := []) (pcs := [wdP cs h r g tf ta pf na ma wa cf ca ef ea xf xa]) hw px_X.tt (px_recv hT hw 0 0 rfl rfl rfl) m11_209 m11_206 m11_208 ms_8_12 m1_21 q_Mpg_make ⟨show 0 + 1 ≤ (8 * 61 + 24) from by omega, show 8 + (3 + 11) + 0 ≤ (220 * 61 + 1120) from by omega⟩ hl.1 rfl (Nat.le_of_ble_eq_true rfl) d_Mpg_enumeration_7 ⟨Nat.le_of_ble_eq_true rfl, Nat.le_of_ble_eq_true rfl⟩) hw hA (fun v185 p184 H locs hp184 hw => ?_) | (refine px_calli (pr := []) (px_runV (As := [.int 43, .int (pf 11)]) (rest := []) S (c_mp_make l D cs h r g tf ta wa cf ca ef ea xf xa pf na ma 43 (pf 11)  (show 0 ≤ (pf 13).toInt from by first | exact g4 | omega) (show (pf 13).toInt < 2100 from by first | exact oz_1fa6c9b1b7 g5 g9 g2 | omega) _) hT (pr := []) (pcs := [wdP cs h r g tf ta pf na ma wa cf ca ef ea xf xa]) hw px_X.tt (px_recv hT hw 0 0 rfl rfl rfl) m11_209 m11_206 m11_208 ms_8_12 m1_21 q_Mpg_make ⟨show 0 + 1 ≤ (8 * 61 + 24) from by omega, show 8 + (3 + 11) + 0 ≤ (220 * 61 + 1120) from by omega⟩ hl.1 rfl (Nat.le_of_ble_eq_true rfl) d_Mpg_enumeration_7 ⟨Nat.le_of_ble_eq_true rfl, Nat.le_of_ble_eq_true rfl⟩) hw hA (fun v185 p184 H locs hp184 hw => ?_))
  obtain ⟨pf181, na182, ma183, rfl, e186, e187, e188, e189, e190, e191, e192, e193, e194⟩ := hp184
  have e186 : v185.toInt = (pf 13).toInt := e186
  have e187 : (pf181 13).toInt = (pf 13).toInt + 1 := e187
  have e188 : (pf181 11).toInt = (pf 11).toInt := e188
  have e189 : (pf181 12).toInt = (pf 12).toInt := e189
  have e190 : (pf181 24).toInt = (pf 24).toInt := e190
  have e191 : (pf181 25).toInt = (pf 25).toInt := e191
  have e192 : (pf181 26).toInt = (pf 26).toInt := e192
  have e193 : MkN na ma na182 ma183 v185 (43 : Int32) (pf 11) := e193
  have e194 : R_mp_make (43 : Int32) (pf 11) pf na ma pf181 na182 ma183 v185 := e194
  obtain ⟨qb1951, qb1952, qb1953, qb1954⟩ := tk_eq (ta := ta) (x := (pf181 11)) (y := (pf 11)) (by omega)
  have hmk_v185 := e193
  have hfm_v185 := MkN.frb (b := v185.toInt) hmk_v185 (by omega) (by omega)
  have hzg := hzg.ag fg_ok (FrB.ag hfm_v185 (by omega))
  have hfs := FsI.mk hfs hmk_v185 (by omega) (by omega) (by omega) (by omega)
  have hfb := hfb.tr hfm_v185 (by omega)
  have hf_14_v185 := hmk_v185.2.1 (by decide) (by decide)
  have hf_15_v185 := hmk_v185.2.2.1
  have hf_17_v185 := hmk_v185.2.2.2.2.1
  have hf_21_v185 := hmk_v185.2.2.2.2.2.2.2.2.1
  clear hmk_v185 hfm_v185
  have lv185 := Int32.le_toInt v185
  have uv185 := Int32.toInt_lt v185
  refine lv_istore_n (lv' := [(1, .int v185), (0, .ref h)]) S.x S.b d_Mpg_enumeration_10 rfl hl (by decide) rfl (fun ls hl => ?_)
  refine lv_aload_n S.x S.b d_Mpg_enumeration_11 rfl (lv_at hl 1 rfl) ?_
  refine lv_dup S.x S.b d_Mpg_enumeration_12 rfl ?_
  refine gP_11 (v := (pf181 11)) S hT hw 0 rfl rfl m9_235 d_Mpg_enumeration_13 ?_
  refine lv_iconst (v := 1) S.x S.b d_Mpg_enumeration_16 (by decide) ?_
  refine lv_iadd S.x S.b d_Mpg_enumeration_17 ?_
  have lr196 := Int32.le_toInt (pf181 11)
  have ur196 := Int32.toInt_lt (pf181 11)
  refine lv_topi (fun z197 ez197 => ?_)
  have tz197 : z197.toInt = ((pf181 11).toInt + (1 : Int) + 2147483648) % 4294967296 - 2147483648 := by rw [ez197]; exact i_add (pf181 11) 1
  have lz197 := Int32.le_toInt z197
  have uz197 := Int32.toInt_lt z197
  try replace tz197 : z197.toInt = (pf181 11).toInt + (1 : Int) := by omega
  have hnx17 := tk_n htk (x := (pf181 11)) (y := z197) (by omega) (by omega) (by omega)
  refine pP_11 S hT hw 0 rfl m9_235 rfl rfl rfl d_Mpg_enumeration_18 (ps' := [wdP cs h r g tf ta (upd pf181 11 z197) na182 ma183 wa cf ca ef ea xf xa]) rfl (fun H locs hw => ?_)
  refine lv_aload_n S.x S.b d_Mpg_enumeration_21 rfl (lv_at hl 1 rfl) ?_
  obtain ⟨sk198, hRsk198, st199, hSsk198⟩ := oP_litB hP (k := 91) (tx := "{") (n := 1) (List.mem_of_getElem? (i := 37) rfl)
  refine va_ldcS S.x S.b S.own hRsk198 d_Mpg_enumeration_22 ?_
  first | refine th_callv (ps0 := [wdP cs h r g tf ta pf na ma wa cf ca ef ea xf xa]) (pr := []) (pcs := [wdP cs h r g tf ta (upd pf181 11 z197) na182 ma183 wa cf ca ef ea xf xa]) (As := [.ref sk198]) (rest := []) (c_mp_opensMark l D cs sk198 1 (lby "{") h r g tf ta na182 ma183 wa cf ca ef ea xf xa (upd pf181 11 z197)   (show 0 ≤ z197.toInt from (oz_9bc226aaf4 tz197 e188 g0)) (show z197.toInt < (tf 6).toInt from (oz_93bebfa6cb g9 tz197 e188)) (show (tf 6).toInt ≤ 2049 from g2) (show 0 ≤ (pf181 12).toInt from (oz_d68b2b83bb e189 g3)) (show (pf181 12).toInt ≤ 60 from (oz_739ed0f543 e189 g3)) (show 1 ≤ 100 from by omega) hlf htk) S hT hw (oX_call (P := (fun A U H => (oN A U H) ∧ (oP A g U H) ∧ (StLt A sk198 1 (lby "{") U H))) (pr := []) (oG_and oG_N (oG_and oG_P oG_QB)) hw hA ⟨hN, hP, ⟨_, hSsk198⟩⟩) (px_recv hT hw 0 0 rfl rfl rfl) m11_213 m11_210 m11_212 ms_8_13 m1_21 q_Mpg_opensMark ⟨show 8 + 1 ≤ (8 * 61 + 24) from by omega, show 8 + (2 + 11) + 240 ≤ (220 * 61 + 1120) from by omega⟩ hl.1 rfl (Nat.le_of_ble_eq_true rfl) d_Mpg_enumeration_24 ⟨Nat.le_of_ble_eq_true rfl, Nat.le_of_ble_eq_true rfl⟩ hne hlk hA hAe (fun o t h => Or.inr h) ?_ (fun p203 H locs hp203 hw => ?_) | (refine th_callv (ps0 := [wdP cs h r g tf ta pf na ma wa cf ca ef ea xf xa]) (pr := []) (pcs := [wdP cs h r g tf ta (upd pf181 11 z197) na182 ma183 wa cf ca ef ea xf xa]) (As := [.ref sk198]) (rest := []) (c_mp_opensMark l D cs sk198 1 (lby "{") h r g tf ta na182 ma183 wa cf ca ef ea xf xa (upd pf181 11 z197)   (show 0 ≤ z197.toInt from by first | exact oz_9bc226aaf4 tz197 e188 g0 | omega) (show z197.toInt < (tf 6).toInt from by first | exact oz_93bebfa6cb g9 tz197 e188 | omega) (show (tf 6).toInt ≤ 2049 from by first | exact g2 | omega) (show 0 ≤ (pf181 12).toInt from by first | exact oz_d68b2b83bb e189 g3 | omega) (show (pf181 12).toInt ≤ 60 from by first | exact oz_739ed0f543 e189 g3 | omega) (show 1 ≤ 100 from by omega) hlf htk) S hT hw (oX_call (P := (fun A U H => (oN A U H) ∧ (oP A g U H) ∧ (StLt A sk198 1 (lby "{") U H))) (pr := []) (oG_and oG_N (oG_and oG_P oG_QB)) hw hA ⟨hN, hP, ⟨_, hSsk198⟩⟩) (px_recv hT hw 0 0 rfl rfl rfl) m11_213 m11_210 m11_212 ms_8_13 m1_21 q_Mpg_opensMark ⟨show 8 + 1 ≤ (8 * 61 + 24) from by omega, show 8 + (2 + 11) + 240 ≤ (220 * 61 + 1120) from by omega⟩ hl.1 rfl (Nat.le_of_ble_eq_true rfl) d_Mpg_enumeration_24 ⟨Nat.le_of_ble_eq_true rfl, Nat.le_of_ble_eq_true rfl⟩ hne hlk hA hAe (fun o t h => Or.inr h) ?_ (fun p203 H locs hp203 hw => ?_))
  · exact fun p1 H1 locs1 hp hw => by obtain ⟨pq1, pq2, pq3, pq4, rfl, hq1, hq2, hu_na, hu_ma, hu_wa, hq3⟩ := hp; exact ⟨_, ⟨pq1, pq2, pq3, pq4, rfl, hq1, hq2, (Exists.intro 1 (Or.inl ⟨rfl, pf181, na182, ma183, v185, e194, z197, ez197, Or.inl ⟨pq1, hq3, rfl, hu_na, hu_ma, hu_wa, rfl⟩⟩))⟩, hw⟩
  obtain ⟨pf202, rfl, e205, e206, e207, e208, e209, e210, e211, e212, e213, e214, e215⟩ := hp203
  have e205 : (pf202 11).toInt = z197.toInt + 1 := e205
  have e206 : (pf202 11).toInt < (tf 6).toInt := e206
  have e207 : bp ta z197 + sz ta z197 ≤ bp ta (pf202 11) := e207
  have e208 : 1 ≤ sz ta z197 := e208
  have e209 : (pf202 12).toInt = (pf181 12).toInt + 1 := e209
  have e210 : (pf181 12).toInt < 60 := e210
  have e211 : (pf202 13).toInt = (pf181 13).toInt := e211
  have e212 : (pf202 24).toInt = (pf181 24).toInt := e212
  have e213 : (pf202 25).toInt = (pf181 25).toInt := e213
  have e214 : (pf202 26).toInt = (pf181 26).toInt := e214
  have e215 : R_mp_opensMark 1 (lby "{") ta (upd pf181 11 z197) pf202 0 := e215
  refine lv_iconst (v := (-1)) S.x S.b d_Mpg_enumeration_27 (by decide) ?_
  refine lv_istore_n (lv' := [(2, .int (-1)), (1, .int v185), (0, .ref h)]) S.x S.b d_Mpg_enumeration_28 rfl hl (by decide) rfl (fun ls hl => ?_)
  refine lv_iconst (v := 1) S.x S.b d_Mpg_enumeration_29 (by decide) ?_
  refine lv_istore_n (lv' := [(3, .int 1), (2, .int (-1)), (1, .int v185), (0, .ref h)]) S.x S.b d_Mpg_enumeration_30 rfl hl (by decide) rfl (fun ls hl => ?_)
  first | exact J31 ((2 * ((tf 6).toInt - (pf202 11).toInt) + (1 : Int)).toNat + 1) pf202 na182 ma183 wa v185 (-1) (1 : Int32) _ _ ls (show (pf202 12).toInt = 1 from (oz_43d0241111 e209 e189 g3)) (show (pf202 26).toInt = 0 from (oz_bfc0cf0d20 e214 e192 g6)) (show (pf202 24).toInt = (pf 24).toInt from (oz_1687f4cc65 e190 e212)) (show (pf202 25).toInt = (pf 25).toInt from (oz_1687f4cc65 e191 e213)) (show (pf 11).toInt + 2 ≤ (pf202 11).toInt from (oz_5fd47446d9 e188 e205 tz197)) (show (pf202 11).toInt < (tf 6).toInt from e206) (show v185.toInt = (pf 13).toInt from e186) (show v185.toInt < (pf202 13).toInt from (oz_c94e31fc97 e186 e211 e187)) (show (pf202 13).toInt - (pf 13).toInt ≤ (pf202 11).toInt - (pf 11).toInt from (oz_6744965aff e187 e188 e205 e211 tz197)) (show bp ta (pf 11) + 2 ≤ bp ta (pf202 11) from (oz_08bb915ce6 qb1951 e207 hnx17.1 e208 hnx17.2)) (show (-1 : Int) = -1 ∨ v185.toInt + 1 ≤ (-1 : Int) from by omega) (show (-1 : Int) < (pf202 13).toInt from (oz_7b131bab08 e211 e187 g4)) (show 0 ≤ (1 : Int) from oz_19c3a41681) (show (1 : Int) ≤ 1 from oz_f9181dc4bb) (show FrB 0 na ma na182 ma183 from hfb) (show FrW (pf 26).toInt wa wa from hfw) (show NdF (tf 6).toInt na182 v185 43 (pf 11) from ⟨(oz_f3ebed1ad0 e186 g4), hf_14_v185, hf_15_v185, ⟨g0, g1⟩, hf_21_v185⟩) (show ZfK ta (tf 6).toInt na182 ma183 (na182 17) v185 (-1) (v185.toInt + 1) (pf202 13).toInt (3 * (bp ta (pf202 11) - bp ta (pf 11)) - 3 * (1 : Int)) 130 from ⟨_, hf_17_v185, Or.inl ⟨by decide, by decide, by omega⟩⟩) (show RzG ta (tf 6).toInt na182 ma183 (pf 24) (pf 25) 0 (pf 13).toInt (3 * bp ta (pf 11)) 200 from (RzV.le (rz_eq hzg (by omega) (by omega)) (by omega) (by omega) (by omega) (by omega))) (show FsI (tf 6).toInt (pf202 13).toInt na182 from (FsI.le hfs (by omega))) (show K_mp_enumeration_31 ta pf na ma wa pf202 na182 ma183 wa v185 (-1) 1 from (fun y_f0 y_f1 y_f2 y_f3 y_t k hE => Exists.intro (k + 1) (Or.inl ⟨rfl, pf181, na182, ma183, v185, e194, z197, ez197, Or.inr ⟨pf202, e215, hE⟩⟩))) (show 2 * ((tf 6).toInt - (pf202 11).toInt) + (1 : Int) < ((((2 * ((tf 6).toInt - (pf202 11).toInt) + (1 : Int)).toNat + 1 : Nat) : Int) : Int) from oz_natlt) hw (lv_sub hl [3, 2, 1, 0] rfl) | (exact J31 ((2 * ((tf 6).toInt - (pf202 11).toInt) + (1 : Int)).toNat + 1) pf202 na182 ma183 wa v185 (-1) (1 : Int32) _ _ ls (show (pf202 12).toInt = 1 from by first | exact oz_43d0241111 e209 e189 g3 | omega) (show (pf202 26).toInt = 0 from by first | exact oz_bfc0cf0d20 e214 e192 g6 | omega) (show (pf202 24).toInt = (pf 24).toInt from by first | exact oz_1687f4cc65 e190 e212 | omega) (show (pf202 25).toInt = (pf 25).toInt from by first | exact oz_1687f4cc65 e191 e213 | omega) (show (pf 11).toInt + 2 ≤ (pf202 11).toInt from by first | exact oz_5fd47446d9 e188 e205 tz197 | omega) (show (pf202 11).toInt < (tf 6).toInt from by first | exact e206 | omega) (show v185.toInt = (pf 13).toInt from by first | exact e186 | omega) (show v185.toInt < (pf202 13).toInt from by first | exact oz_c94e31fc97 e186 e211 e187 | omega) (show (pf202 13).toInt - (pf 13).toInt ≤ (pf202 11).toInt - (pf 11).toInt from by first | exact oz_6744965aff e187 e188 e205 e211 tz197 | omega) (show bp ta (pf 11) + 2 ≤ bp ta (pf202 11) from by first | exact oz_08bb915ce6 qb1951 e207 hnx17.1 e208 hnx17.2 | omega) (show (-1 : Int) = -1 ∨ v185.toInt + 1 ≤ (-1 : Int) from by omega) (show (-1 : Int) < (pf202 13).toInt from by first | exact oz_7b131bab08 e211 e187 g4 | omega) (show 0 ≤ (1 : Int) from by first | exact oz_19c3a41681 | omega) (show (1 : Int) ≤ 1 from by first | exact oz_f9181dc4bb | omega) (show FrB 0 na ma na182 ma183 from hfb) (show FrW (pf 26).toInt wa wa from hfw) (show NdF (tf 6).toInt na182 v185 43 (pf 11) from ⟨by first | exact oz_f3ebed1ad0 e186 g4 | omega, hf_14_v185, hf_15_v185, ⟨by first | exact g0 | omega, by first | exact g1 | omega⟩, hf_21_v185⟩) (show ZfK ta (tf 6).toInt na182 ma183 (na182 17) v185 (-1) (v185.toInt + 1) (pf202 13).toInt (3 * (bp ta (pf202 11) - bp ta (pf 11)) - 3 * (1 : Int)) 130 from ⟨_, hf_17_v185, Or.inl ⟨by decide, by decide, by omega⟩⟩) (show RzG ta (tf 6).toInt na182 ma183 (pf 24) (pf 25) 0 (pf 13).toInt (3 * bp ta (pf 11)) 200 from (RzV.le (rz_eq hzg (by omega) (by omega)) (by omega) (by omega) (by omega) (by omega))) (show FsI (tf 6).toInt (pf202 13).toInt na182 from (FsI.le hfs (by omega))) (show K_mp_enumeration_31 ta pf na ma wa pf202 na182 ma183 wa v185 (-1) 1 from (fun y_f0 y_f1 y_f2 y_f3 y_t k hE => Exists.intro (k + 1) (Or.inl ⟨rfl, pf181, na182, ma183, v185, e194, z197, ez197, Or.inr ⟨pf202, e215, hE⟩⟩))) (show 2 * ((tf 6).toInt - (pf202 11).toInt) + (1 : Int) < ((((2 * ((tf 6).toInt - (pf202 11).toInt) + (1 : Int)).toNat + 1 : Nat) : Int) : Int) from by first | exact oz_natlt | omega) hw (lv_sub hl [3, 2, 1, 0] rfl))
