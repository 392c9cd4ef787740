theorem oz_df4bd3ed07 {a0 a1 : Int} (h0 : a0 ≤ a1 + 10) : a0 ≤ a1 + 20 := by omega
theorem oz_7b203170f1 {a0 a1 a2 a3 : Int} (h0 : a1 = a2 + 1) (h1 : a0 = a3) (h2 : a3 ≤ a2 + 10) : a0 ≤ a1 + 20 := by omega
theorem oz_8dace4bcab {a0 a2 : Int} {n1 : Nat} (h0 : 61 ≤ a2 + (n1 : Int)) (h1 : a0 = a2 + 1) : 61 ≤ a0 + (n1 : Int) := by omega
theorem oz_f101e7799b {a0 a1 : Int} (h0 : a1 + 2 ≤ a0) (h1 : 0 ≤ a1) : 0 ≤ a0 := by omega
theorem oz_b64b673260 {a0 a1 a2 a3 : Int} (h0 : a0 = a1 + a2) (h1 : a3 + 2 ≤ a1) (h2 : 0 ≤ a2) (h3 : 0 ≤ a3) : 0 ≤ a0 := by omega
theorem oz_94d32250eb {a0 a1 a2 a3 a4 : Int} (h0 : a0 + 2 ≤ a2) (h1 : a1 = a3 + 1) (h2 : a3 = a2 + a4) (h3 : 0 ≤ a4) : a0 + 1 ≤ a1 := by omega
theorem oz_2ebd56080c {a0 a1 a2 a3 : Int} (h0 : a0 + 1 ≤ a2) (h1 : a1 = a3) (h2 : a3 = a2) : a0 ≤ a1 := by omega
theorem oz_0ca4cad411 {a0 a1 a2 a3 : Int} (h0 : a0 = a1) (h1 : a2 + 1 ≤ a1) (h2 : a3 < a2) (h3 : 0 ≤ a3) : 0 ≤ a0 := by omega
theorem oz_a8f84bca48 {a0 a1 a2 a3 a4 a5 a6 : Int} (h0 : a1 = a2 + a3) (h1 : a0 = a4) (h2 : a4 - a5 ≤ a2 - a6) (h3 : 0 ≤ a3) (h4 : a5 ≤ a6 + 10) : a0 ≤ a1 + 10 := by omega
theorem oz_6dd5f776aa {a0 a2 a3 : Int} {n1 : Nat} (h0 : 61 ≤ a2 + (n1 : Int)) (h1 : a0 = a3) (h2 : a3 = a2 + 1) : 61 ≤ a0 + (n1 : Int) := by omega
theorem oz_75767867f4 {a0 a1 a2 a3 a4 : Int} (h0 : a0 + 2 ≤ a2) (h1 : a3 + 1 ≤ a1) (h2 : a3 = a2 + a4) (h3 : 0 ≤ a4) : a0 + 2 ≤ a1 := by omega
theorem oz_58f4248ce7 {a0 a1 a2 a3 : Int} (h0 : a1 = a2 + 1) (h1 : a0 = a3) (h2 : a3 ≤ a2 + 10) : a0 ≤ a1 + 10 := by omega
theorem oz_ec7811a741 {a0 a1 a2 : Int} (h0 : a2 = a0 + 1) (h1 : a2 + 1 ≤ a1) : a0 + 2 ≤ a1 := by omega
theorem oz_a8abe01589 {a0 a1 a2 : Int} (h0 : a1 = a2 + (1 : Int)) : a0 - a0 ≤ a1 - a2 := by omega
theorem oz_80360dfd4e {a0 a1 a2 a3 a4 : Int} (h0 : a0 = a1) (h1 : a1 ≤ a2 + 10) (h2 : a3 = a2 + 1) (h3 : a4 ≤ 2049) (h4 : a3 < a4) : a0 < 2100 := by omega
theorem oz_a39e3a791c {a0 a1 a2 a3 a4 : Int} (h0 : a2 = a0 + 1) (h1 : a1 = a3 + a4) (h2 : a3 = a2) (h3 : 0 ≤ a4) : a0 + 1 ≤ a1 := by omega
theorem oz_24060ab0d2 {a0 a1 a2 a3 : Int} (h0 : a2 = a0) (h1 : a1 = a3) (h2 : a3 = a2 + 1) : a0 + 1 ≤ a1 := by omega
theorem oz_0e37f16741 {a0 a1 a2 a3 a4 a5 a6 a7 a8 : Int} (h0 : a4 = a3 + 1) (h1 : a5 = a1) (h2 : a2 = a6 + a7) (h3 : a0 = a8) (h4 : a8 = a5 + 1) (h5 : a6 = a4) (h6 : 0 ≤ a7) : a0 - a1 ≤ a2 - a3 := by omega
theorem oz_a20ea26d85 {a0 a1 a2 a3 a4 : Int} (h0 : a0 = a1 + a2) (h1 : a1 = a3) (h2 : 0 ≤ a2) (h3 : 0 ≤ a4) (h4 : a3 = a4 + 1) : 0 ≤ a0 := by omega
theorem oz_9c5f4b2410 {a0 a1 a2 a3 : Int} (h0 : a0 = a1) (h1 : a1 = a2) (h2 : a2 = a3) (h3 : a3 ≤ 60) : a0 ≤ 60 := by omega
theorem oz_f11508e9ce {a0 a1 a2 a3 a4 a5 a6 a7 a8 : Int} (h0 : a1 = a2 + a3) (h1 : a0 = a4) (h2 : a4 = a5 + 1) (h3 : a2 = a6) (h4 : 0 ≤ a3) (h5 : a7 ≤ a8 + 10) (h6 : a6 = a8 + 1) (h7 : a5 = a7) : a0 ≤ a1 + 20 := by omega
theorem oz_bfab698a8f {a0 a1 a2 a3 a4 a5 a6 a7 : Int} (h0 : a1 = a2) (h1 : a0 = a3) (h2 : a2 = a4) (h3 : a3 = a5) (h4 : a4 = a6) (h5 : a5 = a7) (h6 : a7 ≤ a6) : a0 ≤ a1 := by omega
theorem oz_85fe22b1fe {a0 a2 a3 a4 : Int} {n1 : Nat} (h0 : 61 ≤ a2 + (n1 : Int)) (h1 : a0 = a3) (h2 : a4 = a2) (h3 : a3 = a4) : 61 ≤ a0 + (n1 : Int) := by omega
theorem oz_e19ec92da6 {a0 a1 a2 a3 a4 a5 : Int} (h0 : a2 = a0 + 1) (h1 : a3 + 1 ≤ a1) (h2 : a4 = a2) (h3 : a3 = a4 + a5) (h4 : 0 ≤ a5) : a0 + 1 ≤ a1 := by omega
theorem oz_e7ff4a7562 {a0 a1 a2 a3 a4 : Int} (h0 : a2 = a0) (h1 : a3 + 1 ≤ a1) (h2 : a4 = a2 + 1) (h3 : a3 = a4) : a0 + 1 ≤ a1 := by omega
theorem oz_114c64ebb3 {a0 a1 a2 a3 a4 a5 a6 a7 a8 a9 a10 : Int} (h0 : a4 = a3 + 1) (h1 : a5 = a1) (h2 : a0 - a6 ≤ a2 - a7) (h3 : a8 = a5 + 1) (h4 : a9 = a4) (h5 : a7 = a9 + a10) (h6 : a6 = a8) (h7 : 0 ≤ a10) : a0 - a1 ≤ a2 - a3 := by omega
theorem oz_be30f41976 {a0 a1 a2 a3 a4 a5 a6 a7 : Int} (h0 : a1 = a2 + 1) (h1 : a0 = a3) (h2 : a3 = a4 + 1) (h3 : a2 = a5) (h4 : a6 ≤ a7 + 10) (h5 : a5 = a7 + 1) (h6 : a4 = a6) : a0 ≤ a1 + 10 := by omega
theorem oz_7d30a791a5 {a0 a2 a3 a4 : Int} {n1 : Nat} (h0 : 61 ≤ a2 + (n1 : Int)) (h1 : a0 = a3 + 1) (h2 : a4 = a2) (h3 : a3 = a4) : 61 ≤ a0 + (n1 : Int) := by omega
theorem oz_c7dd3fa87a {a0 a1 a2 a3 a4 a5 : Int} (h0 : a0 = a1 + 1) (h1 : a2 + 1 ≤ a1) (h2 : 0 ≤ a3) (h3 : a4 = a3 + 1) (h4 : a5 = a4) (h5 : a2 = a5 + 1) : 0 ≤ a0 := by omega
theorem oz_a3e699849a {a0 a1 a2 a3 a4 a5 a6 a7 : Int} (h0 : a2 = a0 + 1) (h1 : a1 = a3 + a4) (h2 : a5 = a2) (h3 : a3 = a6 + 1) (h4 : 0 ≤ a4) (h5 : a7 = a5 + 1) (h6 : a7 + 1 ≤ a6) : a0 + 1 ≤ a1 := by omega
theorem oz_9efa0bf84c {a0 a1 a2 a3 a4 a5 a6 : Int} (h0 : a2 = a0) (h1 : a1 = a3) (h2 : a4 = a2 + 1) (h3 : a3 = a5) (h4 : a6 = a4) (h5 : a6 + 1 ≤ a5) : a0 + 1 ≤ a1 := by omega
theorem oz_9ee47fe6a1 {a0 a1 a2 a3 a4 a5 a6 a7 a8 a9 a10 a11 a12 a13 a14 : Int} (h0 : a4 = a3 + 1) (h1 : a5 = a1) (h2 : a2 = a6 + a7) (h3 : a0 = a8) (h4 : a9 = a5 + 1) (h5 : a10 = a4) (h6 : a6 = a11 + 1) (h7 : a8 = a12) (h8 : 0 ≤ a7) (h9 : a13 = a10 + 1) (h10 : a14 = a9) (h11 : a12 - a14 ≤ a11 - a13) : a0 - a1 ≤ a2 - a3 := by omega
theorem oz_0e50ed1885 {a0 a1 a2 a3 a4 a5 a6 : Int} (h0 : a2 = a1) (h1 : a0 = a3) (h2 : a4 = a2) (h3 : a3 = a5 - 1) (h4 : a6 = a4 + 1) (h5 : a5 = a6) : a0 = a1 := by omega
theorem oz_9c07d0d680 {a0 a1 a2 a3 a4 a5 a6 a7 : Int} (h0 : a0 = a1 + a2) (h1 : a1 = a3 + 1) (h2 : 0 ≤ a2) (h3 : 0 ≤ a4) (h4 : a5 = a4 + 1) (h5 : a6 = a5) (h6 : a7 = a6 + 1) (h7 : a7 + 1 ≤ a3) : 0 ≤ a0 := by omega
theorem oz_ce2203671d {a0 a1 a2 a3 a4 a5 a6 a7 : Int} (h0 : a0 = a1) (h1 : a1 = a2 - 1) (h2 : a2 = a3) (h3 : a3 = a4 + 1) (h4 : a4 = a5) (h5 : a5 = a6) (h6 : a7 ≤ a6) (h7 : 0 ≤ a7) : 0 ≤ a0 := by omega
theorem oz_ddab08c2ef {a0 a1 a2 a3 a4 : Int} (h0 : a0 = a1) (h1 : a1 = a2 - 1) (h2 : a2 = a3) (h3 : a3 = a4 + 1) (h4 : a4 < 60) : a0 ≤ 60 := by omega
theorem oz_8489396632 {a0 a1 a2 a3 a4 a5 a6 : Int} (h0 : a0 = a1) (h1 : a1 = a2) (h2 : a3 + 1 ≤ a2) (h3 : a3 = a4) (h4 : a4 = a5 + 1) (h5 : a5 = a6) (h6 : 0 ≤ a6) : 0 ≤ a0 := by omega
theorem oz_75ff170364 {a0 a1 a2 a3 a4 a5 a6 a7 a8 a9 a10 a11 a12 a13 a14 : Int} (h0 : a1 = a2 + a3) (h1 : a0 = a4) (h2 : a2 = a5 + 1) (h3 : a4 = a6) (h4 : 0 ≤ a3) (h5 : a7 ≤ a8 + 10) (h6 : a9 = a8 + 1) (h7 : a10 = a9) (h8 : a11 = a10 + 1) (h9 : a6 - a12 ≤ a5 - a11) (h10 : a13 = a7) (h11 : a12 = a14) (h12 : a14 = a13 + 1) : a0 ≤ a1 + 10 := by omega
theorem oz_208e951691 {a0 a1 a2 a3 a4 a5 a6 : Int} (h0 : a0 = a1) (h1 : a1 = a2) (h2 : a2 = a3) (h3 : a3 = a4) (h4 : a4 = a5) (h5 : a5 = a6) (h6 : 0 ≤ a6) : 0 ≤ a0 := by omega
theorem oz_0cc86014eb {a0 a1 a2 a3 a4 a5 a6 a7 a8 a9 a10 a11 a12 a13 : Int} (h0 : a1 = a2) (h1 : a0 = a3) (h2 : a2 = a4 - 1) (h3 : a3 = a5) (h4 : a4 = a6) (h5 : a5 = a7) (h6 : a6 = a8 + 1) (h7 : a7 = a9) (h8 : a8 = a10) (h9 : a9 = a11) (h10 : a10 = a12) (h11 : a11 = a13) (h12 : a13 ≤ a12) : a0 ≤ a1 := by omega
theorem oz_d1b755c2b4 {a0 a2 a3 a4 a5 a6 a7 : Int} {n1 : Nat} (h0 : 61 ≤ a2 + (n1 : Int)) (h1 : a0 = a3) (h2 : a4 = a2) (h3 : a3 = a5 - 1) (h4 : a6 = a4) (h5 : a5 = a7) (h6 : a7 = a6 + 1) : 61 ≤ a0 + (n1 : Int) := by omega
theorem oz_72b69290f2 {a0 a1 a2 a3 a4 a5 a6 : Int} (h0 : a0 = a2) (h1 : a1 = a3) (h2 : a4 = a2 + 1) (h3 : a3 = a5) (h4 : a6 = a4) (h5 : a6 + 1 ≤ a5) : a0 < a1 := by omega
theorem oz_63646b65f0 {a0 a1 a2 a3 a4 a5 a6 a7 a8 : Int} (h0 : a2 = a0 + 1) (h1 : a3 + 1 ≤ a1) (h2 : a4 = a2) (h3 : a3 = a5 + a6) (h4 : a7 = a4 + 1) (h5 : a7 + 1 ≤ a8) (h6 : a5 = a8 + 1) (h7 : 0 ≤ a6) : a0 + 1 ≤ a1 := by omega
theorem oz_930744b6fe {a0 a1 a2 a3 a4 a5 a6 a7 : Int} (h0 : a2 = a0) (h1 : a3 ≤ a1) (h2 : a4 = a2 + 1) (h3 : a3 = a5) (h4 : a6 = a4) (h5 : a5 = a7) (h6 : a6 + 1 ≤ a7) : a0 + 1 ≤ a1 := by omega
theorem oz_2d496d47b7 {a0 a1 a2 a3 a4 a5 a6 a7 a8 a9 a10 a11 a12 a13 a14 a15 a16 : Int} (h0 : a4 = a3 + 1) (h1 : a5 = a1) (h2 : a0 - a6 ≤ a2 - a7) (h3 : a8 = a5 + 1) (h4 : a9 = a4) (h5 : a7 = a10 + a11) (h6 : a6 = a12) (h7 : a13 = a9 + 1) (h8 : a14 = a8) (h9 : a15 - a14 ≤ a16 - a13) (h10 : a10 = a16 + 1) (h11 : a12 = a15) (h12 : 0 ≤ a11) : a0 - a1 ≤ a2 - a3 := by omega
theorem oz_b3e8b0d22b {a0 a1 a2 a3 a4 a5 a6 a7 : Int} (h0 : a2 = a1) (h1 : a0 = a3) (h2 : a4 = a2) (h3 : a3 = a5) (h4 : a6 = a4 + 1) (h5 : a5 = a7 - 1) (h6 : a7 = a6) : a0 = a1 := by omega
theorem oz_ada9f7f295 {a0 a1 a2 a3 a4 a5 a6 a7 : Int} (h0 : a2 = a1) (h1 : a0 = a3) (h2 : a4 = a2) (h3 : a3 = a5) (h4 : a6 = a4) (h5 : a5 = a7) (h6 : a7 = a6) : a0 = a1 := by omega
theorem oz_3f453873c8 {a0 a1 a2 a3 : Int} (h0 : a0 + 1 ≤ a2) (h1 : a1 = a2 + a3) (h2 : 0 ≤ a3) : a0 + 1 ≤ a1 := by omega
theorem oz_1e32788057 {a0 a1 a2 a3 a4 a5 a6 : Int} (h0 : a4 - a1 ≤ a5 - a3) (h1 : a2 = a5 + a6) (h2 : a0 = a4) (h3 : 0 ≤ a6) : a0 - a1 ≤ a2 - a3 := by omega
theorem oz_c9654dfc48 {a0 a1 a2 a3 a4 a5 : Int} (h0 : a1 = a2) (h1 : a0 = a3) (h2 : a2 = a4) (h3 : a3 = a5) (h4 : a5 ≤ a4) : a0 ≤ a1 := by omega
theorem oz_5733b16367 {a0 a2 a3 : Int} {n1 : Nat} (h0 : 61 ≤ a2 + (n1 : Int)) (h1 : a0 = a3) (h2 : a3 = a2) : 61 ≤ a0 + (n1 : Int) := by omega
theorem oz_1fa6c9b1b7 {a0 a1 a2 : Int} (h0 : a0 ≤ a1 + 10) (h1 : a1 + 1 < a2) (h2 : a2 ≤ 2049) : a0 < 2100 := by omega
theorem oz_935cf6b5f1 {a0 a1 a2 : Int} (h0 : a0 = a1) (h1 : 0 ≤ a1) (h2 : a1 + 1 < a2) (h3 : a2 ≤ 2049) : 0 ≤ a0 ∧ a0 < ((2060 : Nat) : Int) := by omega
theorem oz_9bc226aaf4 {a0 a1 a2 : Int} (h0 : a0 = a1 + (1 : Int)) (h1 : a1 = a2) (h2 : 0 ≤ a2) : 0 ≤ a0 := by omega
theorem oz_93bebfa6cb {a0 a1 a2 a3 : Int} (h0 : a2 + 1 < a1) (h1 : a0 = a3 + (1 : Int)) (h2 : a3 = a2) : a0 < a1 := by omega
theorem oz_49be2cf98c {a0 a1 a2 a3 a4 : Int} (h0 : a0 = a2 + 1) (h1 : a1 = a3 + (1 : Int)) (h2 : a2 ≤ a4 + 10) (h3 : a3 = a4) : a0 ≤ a1 + 10 := by omega
theorem oz_5ec5cff5c7 {a0 a1 a2 a3 : Int} (h0 : a1 + 1 ≤ a0) (h1 : a1 = a2 + (1 : Int)) (h2 : 0 ≤ a3) (h3 : a2 = a3) : 0 ≤ a0 := by omega
theorem oz_e69ebdcefb {a0 a1 a2 a3 a4 : Int} (h0 : a2 = a0) (h1 : a1 = a3 + 1) (h2 : a4 = a2 + (1 : Int)) (h3 : a4 + 1 ≤ a3) : a0 + 1 ≤ a1 := by omega
theorem oz_b67d4358c9 {a0 a1 a2 a3 : Int} (h0 : a2 = a0 + 1) (h1 : a1 = a3) (h2 : a2 + 1 ≤ a3) : a0 + 1 ≤ a1 := by omega
theorem oz_85dfe7ce3a {a0 a1 a2 a3 a4 a5 a6 a7 a8 : Int} (h0 : a4 = a1 + 1) (h1 : a5 = a3) (h2 : a2 = a6 + 1) (h3 : a0 = a7) (h4 : a8 = a5 + (1 : Int)) (h5 : a7 - a4 ≤ a6 - a8) : a0 - a1 ≤ a2 - a3 := by omega
theorem m11_210 : Cond.methodLink "HomeSystemModel$Program" 457 ⟨"HomeSystemModel$Program", "opensMark", "(Ljava/lang/String;)V"⟩ ∈ AL := AL_11 (List.mem_of_getElem? (i := 210) rfl) rfl
theorem m11_213 : Cond.code ⟨"HomeSystemModel$Program", "opensMark", "(Ljava/lang/String;)V"⟩ prog_16_method_24_code 2 (Option.none : Option Jvm.ClassFile.FieldType) ∈ AL := AL_11 (List.mem_of_getElem? (i := 213) rfl) rfl
theorem ms_8_13 : Cond.selects "HomeSystemModel$Program" ⟨"HomeSystemModel$Program", "opensMark", "(Ljava/lang/String;)V"⟩ ⟨"HomeSystemModel$Program", "opensMark", "(Ljava/lang/String;)V"⟩ ∈ AL := AL_p (q := (⟨"HomeSystemModel$Program", "opensMark", "(Ljava/lang/String;)V"⟩, 69)) (by unfold lw_privs; exact List.mem_append_right _ (List.mem_append_right _ (List.mem_append_right _ (List.mem_append_right _ (List.mem_append_right _ (List.mem_append_right _ (List.mem_append_right _ (List.mem_append_left _ (List.mem_of_getElem? (i := 13) rfl)))))))))
theorem m11_212 : Cond.instanceMethod ⟨"HomeSystemModel$Program", "opensMark", "(Ljava/lang/String;)V"⟩ ∈ AL := AL_11 (List.mem_of_getElem? (i := 212) rfl) rfl
theorem m12_7 : Cond.methodLink "HomeSystemModel$Program" 451 ⟨"HomeSystemModel$Program", "constant", "()I"⟩ ∈ AL := AL_12 (List.mem_of_getElem? (i := 7) rfl) rfl
theorem m12_10 : Cond.code ⟨"HomeSystemModel$Program", "constant", "()I"⟩ prog_16_method_45_code 2 (Option.some FieldType.int) ∈ AL := AL_12 (List.mem_of_getElem? (i := 10) rfl) rfl
theorem ms_9_4 : Cond.selects "HomeSystemModel$Program" ⟨"HomeSystemModel$Program", "constant", "()I"⟩ ⟨"HomeSystemModel$Program", "constant", "()I"⟩ ∈ AL := AL_p (q := (⟨"HomeSystemModel$Program", "constant", "()I"⟩, 69)) (by unfold lw_privs; exact List.mem_append_right _ (List.mem_append_right _ (List.mem_append_right _ (List.mem_append_right _ (List.mem_append_right _ (List.mem_append_right _ (List.mem_append_right _ (List.mem_append_right _ (List.mem_append_left _ (List.mem_of_getElem? (i := 4) rfl))))))))))
theorem m12_9 : Cond.instanceMethod ⟨"HomeSystemModel$Program", "constant", "()I"⟩ ∈ AL := AL_12 (List.mem_of_getElem? (i := 9) rfl) rfl
theorem m12_114 : Cond.methodLink "HomeSystemModel$Program" 454 ⟨"HomeSystemModel$Program", "arrayValue", "(I)V"⟩ ∈ AL := AL_12 (List.mem_of_getElem? (i := 114) rfl) rfl
theorem m12_117 : Cond.code ⟨"HomeSystemModel$Program", "arrayValue", "(I)V"⟩ prog_16_method_46_code 4 (Option.none : Option Jvm.ClassFile.FieldType) ∈ AL := AL_12 (List.mem_of_getElem? (i := 117) rfl) rfl
theorem ms_10_14 : Cond.selects "HomeSystemModel$Program" ⟨"HomeSystemModel$Program", "arrayValue", "(I)V"⟩ ⟨"HomeSystemModel$Program", "arrayValue", "(I)V"⟩ ∈ AL := AL_p (q := (⟨"HomeSystemModel$Program", "arrayValue", "(I)V"⟩, 69)) (by unfold lw_privs; exact List.mem_append_right _ (List.mem_append_right _ (List.mem_append_right _ (List.mem_append_right _ (List.mem_append_right _ (List.mem_append_right _ (List.mem_append_right _ (List.mem_append_right _ (List.mem_append_right _ (List.mem_append_left _ (List.mem_of_getElem? (i := 14) rfl)))))))))))
theorem m12_116 : Cond.instanceMethod ⟨"HomeSystemModel$Program", "arrayValue", "(I)V"⟩ ∈ AL := AL_12 (List.mem_of_getElem? (i := 116) rfl) rfl
theorem m12_110 : Cond.methodLink "HomeSystemModel$Program" 448 ⟨"HomeSystemModel$Program", "variable", "()I"⟩ ∈ AL := AL_12 (List.mem_of_getElem? (i := 110) rfl) rfl
theorem m12_113 : Cond.code ⟨"HomeSystemModel$Program", "variable", "()I"⟩ prog_16_method_44_code 2 (Option.some FieldType.int) ∈ AL := AL_12 (List.mem_of_getElem? (i := 113) rfl) rfl
theorem ms_10_13 : Cond.selects "HomeSystemModel$Program" ⟨"HomeSystemModel$Program", "variable", "()I"⟩ ⟨"HomeSystemModel$Program", "variable", "()I"⟩ ∈ AL := AL_p (q := (⟨"HomeSystemModel$Program", "variable", "()I"⟩, 69)) (by unfold lw_privs; exact List.mem_append_right _ (List.mem_append_right _ (List.mem_append_right _ (List.mem_append_right _ (List.mem_append_right _ (List.mem_append_right _ (List.mem_append_right _ (List.mem_append_right _ (List.mem_append_right _ (List.mem_append_left _ (List.mem_of_getElem? (i := 13) rfl)))))))))))
theorem m12_112 : Cond.instanceMethod ⟨"HomeSystemModel$Program", "variable", "()I"⟩ ∈ AL := AL_12 (List.mem_of_getElem? (i := 112) rfl) rfl
theorem m12_106 : Cond.methodLink "HomeSystemModel$Program" 460 ⟨"HomeSystemModel$Program", "variables", "()I"⟩ ∈ AL := AL_12 (List.mem_of_getElem? (i := 106) rfl) rfl
theorem m12_109 : Cond.code ⟨"HomeSystemModel$Program", "variables", "()I"⟩ prog_16_method_43_code 4 (Option.some FieldType.int) ∈ AL := AL_12 (List.mem_of_getElem? (i := 109) rfl) rfl
theorem ms_10_12 : Cond.selects "HomeSystemModel$Program" ⟨"HomeSystemModel$Program", "variables", "()I"⟩ ⟨"HomeSystemModel$Program", "variables", "()I"⟩ ∈ AL := AL_p (q := (⟨"HomeSystemModel$Program", "variables", "()I"⟩, 69)) (by unfold lw_privs; exact List.mem_append_right _ (List.mem_append_right _ (List.mem_append_right _ (List.mem_append_right _ (List.mem_append_right _ (List.mem_append_right _ (List.mem_append_right _ (List.mem_append_right _ (List.mem_append_right _ (List.mem_append_left _ (List.mem_of_getElem? (i := 12) rfl)))))))))))
theorem m12_108 : Cond.instanceMethod ⟨"HomeSystemModel$Program", "variables", "()I"⟩ ∈ AL := AL_12 (List.mem_of_getElem? (i := 108) rfl) rfl
abbrev b_Mpg_constant : ByteArray := prog_16_method_45_code
def y_Mpg_constant : MethodName := ⟨"HomeSystemModel$Program", "constant", "()I"⟩
theorem d_Mpg_constant_0 : decode b_Mpg_constant 0 = .ok (.aload_n 0, 1) := by decide +kernel
theorem d_Mpg_constant_1 : decode b_Mpg_constant 1 = .ok (.invokevirtual 393, 3) := by decide +kernel
theorem d_Mpg_constant_4 : decode b_Mpg_constant 4 = .ok (.istore_n 1, 1) := by decide +kernel
theorem d_Mpg_constant_5 : decode b_Mpg_constant 5 = .ok (.iload_n 1, 1) := by decide +kernel
theorem d_Mpg_constant_6 : decode b_Mpg_constant 6 = .ok (.ifCond .ge 9, 3) := by decide +kernel
theorem d_Mpg_constant_9 : decode b_Mpg_constant 9 = .ok (.iconst (-1), 1) := by decide +kernel
theorem d_Mpg_constant_10 : decode b_Mpg_constant 10 = .ok (.iload_n 1, 1) := by decide +kernel
theorem d_Mpg_constant_11 : decode b_Mpg_constant 11 = .ok (.isub, 1) := by decide +kernel
theorem d_Mpg_constant_12 : decode b_Mpg_constant 12 = .ok (.goto 4, 3) := by decide +kernel
theorem d_Mpg_constant_15 : decode b_Mpg_constant 15 = .ok (.iload_n 1, 1) := by decide +kernel
theorem d_Mpg_constant_16 : decode b_Mpg_constant 16 = .ok (.ireturn, 1) := by decide +kernel
theorem q_Mpg_constant : px_y y_Mpg_constant 0 := by unfold px_y; decide +kernel
set_option maxHeartbeats 4000000 in
set_option maxRecDepth 100000 in
theorem c_mp_constant (l : Launch) (D : va_G) (cs : Nat → ClassId) (h : Nat) (r : Nat → Nat) (g : Nat → Nat → Option Nat) (tf : Nat → Int32) (ta : Nat → Nat → Int32) (cf : Nat → Int32) (ca : Nat → Nat → Int32) (ef : Nat → Int32) (ea : Nat → Nat → Int32) (xf : Nat → Int32) (xa : Nat → Nat → Int32) (pf : Nat → Int32) (na : Nat → Nat → Int32) (ma : Nat → Nat → Int32) (wa : Nat → Nat → Int32) (lv : Nat) (g0 : 0 ≤ (pf 11).toInt) (g1 : (pf 11).toInt < (tf 6).toInt) (g2 : (tf 6).toInt ≤ 2049) (g3 : 0 ≤ (pf 12).toInt) (g4 : (pf 12).toInt ≤ 60) (g5 : 0 ≤ (pf 13).toInt) (g6 : (pf 13).toInt ≤ (pf 11).toInt + 10) (g7 : 0 ≤ (pf 26).toInt) (g8 : (pf 26).toInt ≤ (pf 12).toInt) (g9 : 61 ≤ (pf 12).toInt + (lv : Int)) (g10 : lv ≤ 61) (hlf : l.flags = pinnedFlags ++ [noTraceFlag]) (htk : TkI tf ta) (hfs : FsI (tf 6).toInt (pf 13).toInt na) : ThI l y_Mpg_constant b_Mpg_constant 2 (.int) D cs (8 * lv + 21) (220 * lv + 720) [.ref h] [wdP cs h r g tf ta pf na ma wa cf ca ef ea xf xa] (oX (fun A U H => (oN A U H) ∧ (oP A g U H)) [wdP cs h r g tf ta pf na ma wa cf ca ef ea xf xa]) "java/lang/IllegalArgumentException" (fun v ps => ∃ (pf' : Nat → Int32) (na' : Nat → Nat → Int32) (ma' : Nat → Nat → Int32) (wa' : Nat → Nat → Int32), (ps = [wdP cs h r g tf ta pf' na' ma' wa' cf ca ef ea xf xa]) ∧ ((pf 11).toInt + 1 ≤ (pf' 11).toInt) ∧ ((pf' 11).toInt < (tf 6).toInt) ∧ ((pf 13).toInt + 1 ≤ (pf' 13).toInt) ∧ ((pf' 13).toInt - (pf 13).toInt ≤ (pf' 11).toInt - (pf 11).toInt) ∧ (bp ta (pf 11) + 1 ≤ bp ta (pf' 11)) ∧ ((pf' 12).toInt = (pf 12).toInt) ∧ ((pf' 24).toInt = (pf 24).toInt) ∧ ((pf' 25).toInt = (pf 25).toInt) ∧ ((pf' 26).toInt = (pf 26).toInt) ∧ (FrB (pf 13).toInt na ma na' ma') ∧ (FrW (pf 26).toInt wa wa') ∧ (ExR ta (tf 6).toInt na' ma' v (pf 13).toInt (pf' 13).toInt (3 * (bp ta (pf' 11) - bp ta (pf 11))) (pf 12).toInt) ∧ (FsI (tf 6).toInt (pf' 13).toInt na')) (fun ps => ∃ (pf' : Nat → Int32) (na' : Nat → Nat → Int32) (ma' : Nat → Nat → Int32) (wa' : Nat → Nat → Int32), ps = [wdP cs h r g tf ta pf' na' ma' wa' cf ca ef ea xf xa] ∧ 0 ≤ (pf' 11).toInt ∧ (pf' 11).toInt + 1 ≤ (tf 6).toInt) := by
  refine th_enter (by decide) (Nat.le_of_ble_eq_true rfl) ?_
  intro p e s m below meth c A ls hAe S hr hlk hnm hA hT hX hw hl hne hadm
  have hl : lv_has ls 2 [(0, .ref h)] := hl
  have cstm1 : ((-1) : Int32).toInt = (-1) := rfl
  have hX : (fun A U H => (oN A U H) ∧ (oP A g U H)) A s s.heap := by rw [hAe]; exact hX
  obtain ⟨hN, hP⟩ := hX
  have hZ := hP.1
  have hF0 := hP.2.1
  have hfb : FrB (pf 13).toInt na ma na ma := FrB.rf
  have hfw : FrW (pf 26).toInt wa wa := FrW.rf
  refine lv_aload_n S.x S.b d_Mpg_constant_0 rfl (lv_at hl 0 rfl) ?_
  refine th_calli (ps0 := [wdP cs h r g tf ta pf na ma wa cf ca ef ea xf xa]) (pr := []) (pcs := [wdP cs h r g tf ta pf na ma wa cf ca ef ea xf xa]) (As := []) (rest := []) (c_S_conditional l D cs h r g tf ta cf ca ef ea xf xa pf na ma wa  lv (show 0 ≤ (pf 11).toInt from by first | exact g0 | omega) (show (pf 11).toInt < (tf 6).toInt from by first | exact g1 | omega) (show (tf 6).toInt ≤ 2049 from by first | exact g2 | omega) (show 0 ≤ (pf 12).toInt from by first | exact g3 | omega) (show (pf 12).toInt ≤ 60 from by first | exact g4 | omega) (show 0 ≤ (pf 13).toInt from by first | exact g5 | omega) (show (pf 13).toInt ≤ (pf 11).toInt + 20 from by first | exact oz_df4bd3ed07 g6 | omega) (show 0 ≤ (pf 26).toInt from by first | exact g7 | omega) (show (pf 26).toInt ≤ (pf 12).toInt from by first | exact g8 | omega) (show 61 ≤ (pf 12).toInt + (lv : Int) from by first | exact g9 | omega) (show lv ≤ 61 from by first | exact g10 | omega) hlf htk (FsI.le (N' := (pf 13).toInt) hfs (by first | with_reducible rfl | with_reducible assumption | omega))) S hT hw (oX_call (P := (fun A U H => (oN A U H) ∧ (oP A g U H))) (pr := []) (oG_and oG_N oG_P) hw hA ⟨hN, hP⟩) (px_recv hT hw 0 0 rfl rfl rfl) m12_14 m12_11 m12_13 ms_9_5 m1_21 q_Mpg_conditional ⟨show (8 * lv + 19) + 1 ≤ (8 * lv + 21) from by first | with_reducible rfl | with_reducible assumption | omega, show 8 + (7 + 11) + (220 * lv + 690) ≤ (220 * lv + 720) from by first | with_reducible rfl | with_reducible assumption | omega⟩ hl.1 rfl (Nat.le_of_ble_eq_true rfl) d_Mpg_constant_1 ⟨Nat.le_of_ble_eq_true rfl, Nat.le_of_ble_eq_true rfl⟩ hne hlk hA hAe (fun o t h => Or.inr h) ?_ (fun v10 p9 H locs hp9 hw => ?_)
  · exact fun p1 H1 locs1 hp hw => by obtain ⟨pq1, pq2, pq3, pq4, rfl, hq1, hq2⟩ := hp; exact ⟨_, ⟨pq1, pq2, pq3, pq4, rfl, hq1, hq2⟩, hw⟩
  obtain ⟨pf5, na6, ma7, wa8, rfl, e11, e12, e13, e14, e15, e16, e17, e18, e19, e20, e21, e22, e23⟩ := hp9
  have e11 : (pf 11).toInt + 1 ≤ (pf5 11).toInt := e11
  have e12 : (pf5 11).toInt < (tf 6).toInt := e12
  have e13 : (pf 13).toInt + 1 ≤ (pf5 13).toInt := e13
  have e14 : (pf5 13).toInt - (pf 13).toInt ≤ (pf5 11).toInt - (pf 11).toInt := e14
  have e15 : bp ta (pf 11) + 1 ≤ bp ta (pf5 11) := e15
  have e16 : (pf5 12).toInt = (pf 12).toInt := e16
  have e17 : (pf5 24).toInt = (pf 24).toInt := e17
  have e18 : (pf5 25).toInt = (pf 25).toInt := e18
  have e19 : (pf5 26).toInt = (pf 26).toInt := e19
  have e20 : FrB (pf 13).toInt na ma na6 ma7 := e20
  have hfb := hfb.tr e20 (by first | with_reducible rfl | with_reducible assumption | omega)
  have e21 : FrW (pf 26).toInt wa wa8 := e21
  have hfw := hfw.tr e21 (by first | with_reducible rfl | with_reducible assumption | omega)
  have e22 : ExD ta (tf 6).toInt na6 ma7 v10 (pf 13).toInt (pf5 13).toInt (3 * (bp ta (pf5 11) - bp ta (pf 11))) (pf 12).toInt := e22
  have hxd_v10 := e22
  have hnx_v10 := hxd_v10.num
  have e23 : FsI (tf 6).toInt (pf5 13).toInt na6 := e23
  have hfs := e23
  have hw : pw D A s.heap H locs [wdP cs h r g tf ta pf5 na6 ma7 wa8 cf ca ef ea xf xa] := hw
  have lv10 := Int32.le_toInt v10
  have uv10 := Int32.toInt_lt v10
  refine lv_istore_n (lv' := [(1, .int v10), (0, .ref h)]) S.x S.b d_Mpg_constant_4 rfl hl (by decide) rfl (fun ls hl => ?_)
  refine lv_iload_n S.x S.b d_Mpg_constant_5 rfl (lv_at hl 0 rfl) ?_
  refine lv_if_ge (tgt := 15) S.x S.b d_Mpg_constant_6 (by decide) (fun c24 => ?_) (fun c24 => ?_)
  · have nc24 : (0 : Int) ≤ v10.toInt := (i_le (x := 0) (y := v10)).mp c24
    refine lv_iload_n S.x S.b d_Mpg_constant_15 rfl (lv_at hl 0 rfl) ?_
    have ht_v10 := hxd_v10.pos (by first | with_reducible rfl | with_reducible assumption | omega); have hn_ht_v10 := ht_v10.num
    exact th_iret (v := v10) S hr rfl hlk hAe hw (⟨pf5, na6, ma7, wa8, rfl, (show (pf 11).toInt + 1 ≤ (pf5 11).toInt from by first | exact e11 | omega), (show (pf5 11).toInt < (tf 6).toInt from by first | exact e12 | omega), (show (pf 13).toInt + 1 ≤ (pf5 13).toInt from by first | exact e13 | omega), (show (pf5 13).toInt - (pf 13).toInt ≤ (pf5 11).toInt - (pf 11).toInt from by first | exact e14 | omega), (show bp ta (pf 11) + 1 ≤ bp ta (pf5 11) from by first | exact e15 | omega), (show (pf5 12).toInt = (pf 12).toInt from by first | exact e16 | omega), (show (pf5 24).toInt = (pf 24).toInt from by first | exact e17 | omega), (show (pf5 25).toInt = (pf 25).toInt from by first | exact e18 | omega), (show (pf5 26).toInt = (pf 26).toInt from by first | exact e19 | omega), (show FrB (pf 13).toInt na ma na6 ma7 from hfb), (show FrW (pf 26).toInt wa wa8 from hfw), (show ExR ta (tf 6).toInt na6 ma7 v10 (pf 13).toInt (pf5 13).toInt (3 * (bp ta (pf5 11) - bp ta (pf 11))) (pf 12).toInt from (ExR.le ht_v10 (by first | with_reducible rfl | with_reducible assumption | omega) (by first | with_reducible rfl | with_reducible assumption | omega) (by first | with_reducible rfl | with_reducible assumption | omega) (by first | with_reducible rfl | with_reducible assumption | omega))), (show FsI (tf 6).toInt (pf5 13).toInt na6 from (FsI.le hfs (by first | with_reducible rfl | with_reducible assumption | omega)))⟩) d_Mpg_constant_16
  · have nc24 : ¬ (0 : Int) ≤ v10.toInt := mt (i_le (x := 0) (y := v10)).mpr c24
    refine lv_iconst (v := (-1)) S.x S.b d_Mpg_constant_9 (by decide) ?_
    refine lv_iload_n S.x S.b d_Mpg_constant_10 rfl (lv_at hl 0 rfl) ?_
    refine lv_isub S.x S.b d_Mpg_constant_11 ?_
    refine lv_topi (fun z25 ez25 => ?_)
    have tz25 : z25.toInt = ((-1 : Int) - v10.toInt + 2147483648) % 4294967296 - 2147483648 := by rw [ez25]; exact i_sub (-1) v10
    have lz25 := Int32.le_toInt z25
    have uz25 := Int32.toInt_lt z25
    try replace tz25 : z25.toInt = (-1 : Int) - v10.toInt := by omega
    have ht_z25 := hxd_v10.neg (z := z25) (by first | with_reducible rfl | with_reducible assumption | omega) (by first | with_reducible rfl | with_reducible assumption | omega); have hn_ht_z25 := ht_z25.num
    refine lv_goto (tgt := 16) S.x S.b d_Mpg_constant_12 (by decide) ?_
    exact th_iret (v := z25) S hr rfl hlk hAe hw (⟨pf5, na6, ma7, wa8, rfl, (show (pf 11).toInt + 1 ≤ (pf5 11).toInt from by first | exact e11 | omega), (show (pf5 11).toInt < (tf 6).toInt from by first | exact e12 | omega), (show (pf 13).toInt + 1 ≤ (pf5 13).toInt from by first | exact e13 | omega), (show (pf5 13).toInt - (pf 13).toInt ≤ (pf5 11).toInt - (pf 11).toInt from by first | exact e14 | omega), (show bp ta (pf 11) + 1 ≤ bp ta (pf5 11) from by first | exact e15 | omega), (show (pf5 12).toInt = (pf 12).toInt from by first | exact e16 | omega), (show (pf5 24).toInt = (pf 24).toInt from by first | exact e17 | omega), (show (pf5 25).toInt = (pf 25).toInt from by first | exact e18 | omega), (show (pf5 26).toInt = (pf 26).toInt from by first | exact e19 | omega), (show FrB (pf 13).toInt na ma na6 ma7 from hfb), (show FrW (pf 26).toInt wa wa8 from hfw), (show ExR ta (tf 6).toInt na6 ma7 z25 (pf 13).toInt (pf5 13).toInt (3 * (bp ta (pf5 11) - bp ta (pf 11))) (pf 12).toInt from (ExR.le ht_z25 (by first | with_reducible rfl | with_reducible assumption | omega) (by first | with_reducible rfl | with_reducible assumption | omega) (by first | with_reducible rfl | with_reducible assumption | omega) (by first | with_reducible rfl | with_reducible assumption | omega))), (show FsI (tf 6).toInt (pf5 13).toInt na6 from (FsI.le hfs (by first | with_reducible rfl | with_reducible assumption | omega)))⟩) d_Mpg_constant_16
abbrev b_Mpg_inParentheses : ByteArray := prog_16_method_50_code
def y_Mpg_inParentheses : MethodName := ⟨"HomeSystemModel$Program", "inParentheses", "()I"⟩
theorem d_Mpg_inParentheses_0 : decode b_Mpg_inParentheses 0 = .ok (.aload_n 0, 1) := by decide +kernel
theorem d_Mpg_inParentheses_1 : decode b_Mpg_inParentheses 1 = .ok (.ldc 87, 2) := by decide +kernel
theorem d_Mpg_inParentheses_3 : decode b_Mpg_inParentheses 3 = .ok (.invokevirtual 457, 3) := by decide +kernel
theorem d_Mpg_inParentheses_6 : decode b_Mpg_inParentheses 6 = .ok (.aload_n 0, 1) := by decide +kernel
theorem d_Mpg_inParentheses_7 : decode b_Mpg_inParentheses 7 = .ok (.invokevirtual 403, 3) := by decide +kernel
theorem d_Mpg_inParentheses_10 : decode b_Mpg_inParentheses 10 = .ok (.istore_n 1, 1) := by decide +kernel
theorem d_Mpg_inParentheses_11 : decode b_Mpg_inParentheses 11 = .ok (.aload_n 0, 1) := by decide +kernel
theorem d_Mpg_inParentheses_12 : decode b_Mpg_inParentheses 12 = .ok (.ldc 89, 2) := by decide +kernel
theorem d_Mpg_inParentheses_14 : decode b_Mpg_inParentheses 14 = .ok (.invokevirtual 439, 3) := by decide +kernel
theorem d_Mpg_inParentheses_17 : decode b_Mpg_inParentheses 17 = .ok (.iload_n 1, 1) := by decide +kernel
theorem d_Mpg_inParentheses_18 : decode b_Mpg_inParentheses 18 = .ok (.ireturn, 1) := by decide +kernel
theorem q_Mpg_inParentheses : px_y y_Mpg_inParentheses 0 := by unfold px_y; decide +kernel
set_option maxHeartbeats 4000000 in
set_option maxRecDepth 100000 in
theorem c_mp_inParentheses (l : Launch) (D : va_G) (cs : Nat → ClassId) (h : Nat) (r : Nat → Nat) (g : Nat → Nat → Option Nat) (tf : Nat → Int32) (ta : Nat → Nat → Int32) (cf : Nat → Int32) (ca : Nat → Nat → Int32) (ef : Nat → Int32) (ea : Nat → Nat → Int32) (xf : Nat → Int32) (xa : Nat → Nat → Int32) (pf : Nat → Int32) (na : Nat → Nat → Int32) (ma : Nat → Nat → Int32) (wa : Nat → Nat → Int32) (lv : Nat) (g0 : 0 ≤ (pf 11).toInt) (g1 : (pf 11).toInt < (tf 6).toInt) (g2 : (tf 6).toInt ≤ 2049) (g3 : 0 ≤ (pf 12).toInt) (g4 : (pf 12).toInt ≤ 60) (g5 : 0 ≤ (pf 13).toInt) (g6 : (pf 13).toInt ≤ (pf 11).toInt + 10) (g7 : 0 ≤ (pf 26).toInt) (g8 : (pf 26).toInt ≤ (pf 12).toInt) (g9 : 61 ≤ (pf 12).toInt + (lv : Int)) (g10 : lv ≤ 61) (hlf : l.flags = pinnedFlags ++ [noTraceFlag]) (htk : TkI tf ta) (hfs : FsI (tf 6).toInt (pf 13).toInt na) : ThI l y_Mpg_inParentheses b_Mpg_inParentheses 2 (.int) D cs (8 * lv + 22) (220 * lv + 1000) [.ref h] [wdP cs h r g tf ta pf na ma wa cf ca ef ea xf xa] (oX (fun A U H => (oN A U H) ∧ (oP A g U H)) [wdP cs h r g tf ta pf na ma wa cf ca ef ea xf xa]) "java/lang/IllegalArgumentException" (fun v ps => ∃ (pf' : Nat → Int32) (na' : Nat → Nat → Int32) (ma' : Nat → Nat → Int32) (wa' : Nat → Nat → Int32), (ps = [wdP cs h r g tf ta pf' na' ma' wa' cf ca ef ea xf xa]) ∧ ((pf 11).toInt + 1 ≤ (pf' 11).toInt) ∧ ((pf' 11).toInt < (tf 6).toInt) ∧ ((pf 13).toInt + 1 ≤ (pf' 13).toInt) ∧ ((pf' 13).toInt - (pf 13).toInt ≤ (pf' 11).toInt - (pf 11).toInt) ∧ (bp ta (pf 11) + 1 ≤ bp ta (pf' 11)) ∧ ((pf' 12).toInt = (pf 12).toInt) ∧ ((pf' 24).toInt = (pf 24).toInt) ∧ ((pf' 25).toInt = (pf 25).toInt) ∧ ((pf' 26).toInt = (pf 26).toInt) ∧ (FrB (pf 13).toInt na ma na' ma') ∧ (FrW (pf 26).toInt wa wa') ∧ (ExR ta (tf 6).toInt na' ma' v (pf 13).toInt (pf' 13).toInt (3 * (bp ta (pf' 11) - bp ta (pf 11)) - 6) (pf 12).toInt) ∧ (FsI (tf 6).toInt (pf' 13).toInt na')) (fun ps => ∃ (pf' : Nat → Int32) (na' : Nat → Nat → Int32) (ma' : Nat → Nat → Int32) (wa' : Nat → Nat → Int32), ps = [wdP cs h r g tf ta pf' na' ma' wa' cf ca ef ea xf xa] ∧ 0 ≤ (pf' 11).toInt ∧ (pf' 11).toInt + 1 ≤ (tf 6).toInt) := by
  refine th_enter (by decide) (Nat.le_of_ble_eq_true rfl) ?_
  intro p e s m below meth c A ls hAe S hr hlk hnm hA hT hX hw hl hne hadm
  have hl : lv_has ls 2 [(0, .ref h)] := hl
  have hX : (fun A U H => (oN A U H) ∧ (oP A g U H)) A s s.heap := by rw [hAe]; exact hX
  obtain ⟨hN, hP⟩ := hX
  have hZ := hP.1
  have hF0 := hP.2.1
  have hfb : FrB (pf 13).toInt na ma na ma := FrB.rf
  have hfw : FrW (pf 26).toInt wa wa := FrW.rf
  refine lv_aload_n S.x S.b d_Mpg_inParentheses_0 rfl (lv_at hl 0 rfl) ?_
  obtain ⟨sk1, hRsk1, st2, sb3, hSsk1⟩ := oP_lit hP (k := 87) (tx := "(") (n := 1) (List.mem_of_getElem? (i := 35) rfl)
  refine va_ldcS S.x S.b S.own hRsk1 d_Mpg_inParentheses_1 ?_
  refine th_callv (ps0 := [wdP cs h r g tf ta pf na ma wa cf ca ef ea xf xa]) (pr := []) (pcs := [wdP cs h r g tf ta pf na ma wa cf ca ef ea xf xa]) (As := [.ref sk1]) (rest := []) (c_mp_opensMark l D cs sk1 1 h r g tf ta na ma wa cf ca ef ea xf xa pf   (show 0 ≤ (pf 11).toInt from by first | exact g0 | omega) (show (pf 11).toInt < (tf 6).toInt from by first | exact g1 | omega) (show (tf 6).toInt ≤ 2049 from by first | exact g2 | omega) (show 0 ≤ (pf 12).toInt from by first | exact g3 | omega) (show (pf 12).toInt ≤ 60 from by first | exact g4 | omega) (show 1 ≤ 100 from by first | decide | omega) hlf htk) S hT hw (oX_call (P := (fun A U H => (oN A U H) ∧ (oP A g U H) ∧ (StS A sk1 1 U H))) (pr := []) (oG_and oG_N (oG_and oG_P oG_Q)) hw hA ⟨hN, hP, ⟨_, _, hSsk1⟩⟩) (px_recv hT hw 0 0 rfl rfl rfl) m11_213 m11_210 m11_212 ms_8_13 m1_21 q_Mpg_opensMark ⟨show 8 + 1 ≤ (8 * lv + 22) from by first | with_reducible rfl | with_reducible assumption | omega, show 8 + (2 + 11) + 240 ≤ (220 * lv + 1000) from by first | with_reducible rfl | with_reducible assumption | omega⟩ hl.1 rfl (Nat.le_of_ble_eq_true rfl) d_Mpg_inParentheses_3 ⟨Nat.le_of_ble_eq_true rfl, Nat.le_of_ble_eq_true rfl⟩ hne hlk hA hAe (fun o t h => Or.inr h) ?_ (fun p6 H locs hp6 hw => ?_)
  · exact fun p1 H1 locs1 hp hw => by obtain ⟨pq1, pq2, pq3, pq4, rfl, hq1, hq2⟩ := hp; exact ⟨_, ⟨pq1, pq2, pq3, pq4, rfl, hq1, hq2⟩, hw⟩
  obtain ⟨pf5, rfl, e8, e9, e10, e11, e12, e13, e14, e15, e16, e17⟩ := hp6
  have e8 : (pf5 11).toInt = (pf 11).toInt + 1 := e8
  have e9 : (pf5 11).toInt < (tf 6).toInt := e9
  have e10 : bp ta (pf 11) + sz ta (pf 11) ≤ bp ta (pf5 11) := e10
  have e11 : 1 ≤ sz ta (pf 11) := e11
  have e12 : (pf5 12).toInt = (pf 12).toInt + 1 := e12
  have e13 : (pf 12).toInt < 60 := e13
  have e14 : (pf5 13).toInt = (pf 13).toInt := e14
  have e15 : (pf5 24).toInt = (pf 24).toInt := e15
  have e16 : (pf5 25).toInt = (pf 25).toInt := e16
  have e17 : (pf5 26).toInt = (pf 26).toInt := e17
  have hw : pw D A s.heap H locs [wdP cs h r g tf ta pf5 na ma wa cf ca ef ea xf xa] := hw
  refine lv_aload_n S.x S.b d_Mpg_inParentheses_6 rfl (lv_at hl 0 rfl) ?_
  refine th_calli (ps0 := [wdP cs h r g tf ta pf na ma wa cf ca ef ea xf xa]) (pr := []) (pcs := [wdP cs h r g tf ta pf5 na ma wa cf ca ef ea xf xa]) (As := []) (rest := []) (c_S_expression l D cs h r g tf ta cf ca ef ea xf xa pf5 na ma wa  lv (show 0 ≤ (pf5 11).toInt from by first | exact oz_ae613611c0 e8 g0 | omega) (show (pf5 11).toInt < (tf 6).toInt from by first | exact e9 | omega) (show (tf 6).toInt ≤ 2049 from by first | exact g2 | omega) (show 0 ≤ (pf5 12).toInt from by first | exact oz_ae613611c0 e12 g3 | omega) (show (pf5 12).toInt ≤ 60 from by first | exact oz_6710fd9021 e12 e13 | omega) (show 0 ≤ (pf5 13).toInt from by first | exact oz_f3ebed1ad0 e14 g5 | omega) (show (pf5 13).toInt ≤ (pf5 11).toInt + 20 from by first | exact oz_7b203170f1 e8 e14 g6 | omega) (show 0 ≤ (pf5 26).toInt from by first | exact oz_f3ebed1ad0 e17 g7 | omega) (show (pf5 26).toInt ≤ (pf5 12).toInt from by first | exact oz_d87b110ba5 e12 e17 g8 | omega) (show 61 ≤ (pf5 12).toInt + (lv : Int) from by first | exact oz_8dace4bcab g9 e12 | omega) (show lv ≤ 61 from by first | exact g10 | omega) hlf htk (FsI.le (N' := (pf5 13).toInt) hfs (by first | with_reducible rfl | with_reducible assumption | omega))) S hT hw (oX_call (P := (fun A U H => (oN A U H) ∧ (oP A g U H))) (pr := []) (oG_and oG_N oG_P) hw hA ⟨hN, hP⟩) (px_recv hT hw 0 0 rfl rfl rfl) m12_38 m12_35 m12_37 ms_9_11 m1_21 q_Mpg_expression ⟨show (8 * lv + 20) + 1 ≤ (8 * lv + 22) from by first | with_reducible rfl | with_reducible assumption | omega, show 8 + (7 + 11) + (220 * lv + 720) ≤ (220 * lv + 1000) from by first | with_reducible rfl | with_reducible assumption | omega⟩ hl.1 rfl (Nat.le_of_ble_eq_true rfl) d_Mpg_inParentheses_7 ⟨Nat.le_of_ble_eq_true rfl, Nat.le_of_ble_eq_true rfl⟩ hne hlk hA hAe (fun o t h => Or.inr h) ?_ (fun v27 p26 H locs hp26 hw => ?_)
  · exact fun p1 H1 locs1 hp hw => by obtain ⟨pq1, pq2, pq3, pq4, rfl, hq1, hq2⟩ := hp; exact ⟨_, ⟨pq1, pq2, pq3, pq4, rfl, hq1, hq2⟩, hw⟩
  obtain ⟨pf22, na23, ma24, wa25, rfl, e28, e29, e30, e31, e32, e33, e34, e35, e36, e37, e38, e39, e40⟩ := hp26
  have e28 : (pf5 11).toInt + 1 ≤ (pf22 11).toInt := e28
  have e29 : (pf22 11).toInt < (tf 6).toInt := e29
  have e30 : (pf5 13).toInt + 1 ≤ (pf22 13).toInt := e30
  have e31 : (pf22 13).toInt - (pf5 13).toInt ≤ (pf22 11).toInt - (pf5 11).toInt := e31
  have e32 : bp ta (pf5 11) + 1 ≤ bp ta (pf22 11) := e32
  have e33 : (pf22 12).toInt = (pf5 12).toInt := e33
  have e34 : (pf22 24).toInt = (pf5 24).toInt := e34
  have e35 : (pf22 25).toInt = (pf5 25).toInt := e35
  have e36 : (pf22 26).toInt = (pf5 26).toInt := e36
  have e37 : FrB (pf5 13).toInt na ma na23 ma24 := e37
  have hfb := hfb.tr e37 (by first | with_reducible rfl | with_reducible assumption | omega)
  have e38 : FrW (pf5 26).toInt wa wa25 := e38
  have hfw := hfw.tr e38 (by first | with_reducible rfl | with_reducible assumption | omega)
  have e39 : ExR ta (tf 6).toInt na23 ma24 v27 (pf5 13).toInt (pf22 13).toInt (3 * (bp ta (pf22 11) - bp ta (pf5 11))) (pf5 12).toInt := e39
  have ht_v27 := e39
  have hn_ht_v27 := ht_v27.num
  have e40 : FsI (tf 6).toInt (pf22 13).toInt na23 := e40
  have hfs := e40
  have hw : pw D A s.heap H locs [wdP cs h r g tf ta pf22 na23 ma24 wa25 cf ca ef ea xf xa] := hw
  have lv27 := Int32.le_toInt v27
  have uv27 := Int32.toInt_lt v27
  refine lv_istore_n (lv' := [(1, .int v27), (0, .ref h)]) S.x S.b d_Mpg_inParentheses_10 rfl hl (by decide) rfl (fun ls hl => ?_)
  refine lv_aload_n S.x S.b d_Mpg_inParentheses_11 rfl (lv_at hl 1 rfl) ?_
  obtain ⟨sk41, hRsk41, st42, sb43, hSsk41⟩ := oP_lit hP (k := 89) (tx := ")") (n := 1) (List.mem_of_getElem? (i := 36) rfl)
  refine va_ldcS S.x S.b S.own hRsk41 d_Mpg_inParentheses_12 ?_
  refine th_callv (ps0 := [wdP cs h r g tf ta pf na ma wa cf ca ef ea xf xa]) (pr := []) (pcs := [wdP cs h r g tf ta pf22 na23 ma24 wa25 cf ca ef ea xf xa]) (As := [.ref sk41]) (rest := []) (c_mp_closes l D cs sk41 1 h r g tf ta na23 ma24 wa25 cf ca ef ea xf xa pf22   (show 0 ≤ (pf22 11).toInt from by first | exact oz_4606bbd1cf e28 e8 g0 | omega) (show (pf22 11).toInt < (tf 6).toInt from by first | exact e29 | omega) (show (tf 6).toInt ≤ 2049 from by first | exact g2 | omega) (show 1 ≤ (pf22 12).toInt from by first | exact oz_a564fc7457 e33 e12 g8 g7 | omega) (show (pf22 12).toInt ≤ 60 from by first | exact oz_1a76b13bbc e33 e12 e13 | omega) (show 1 ≤ 100 from by first | decide | omega) hlf htk) S hT hw (oX_call (P := (fun A U H => (oN A U H) ∧ (oP A g U H) ∧ (StS A sk41 1 U H))) (pr := []) (oG_and oG_N (oG_and oG_P oG_Q)) hw hA ⟨hN, hP, ⟨_, _, hSsk41⟩⟩) (px_recv hT hw 0 0 rfl rfl rfl) m12_53 m12_50 m12_52 ms_9_14 m1_21 q_Mpg_closes ⟨show 8 + 1 ≤ (8 * lv + 22) from by first | with_reducible rfl | with_reducible assumption | omega, show 8 + (2 + 11) + 280 ≤ (220 * lv + 1000) from by first | with_reducible rfl | with_reducible assumption | omega⟩ hl.1 rfl (Nat.le_of_ble_eq_true rfl) d_Mpg_inParentheses_14 ⟨Nat.le_of_ble_eq_true rfl, Nat.le_of_ble_eq_true rfl⟩ hne hlk hA hAe (fun o t h => Or.inr h) ?_ (fun p46 H locs hp46 hw => ?_)
  · exact fun p1 H1 locs1 hp hw => by obtain ⟨pq1, pq2, pq3, pq4, rfl, hq1, hq2⟩ := hp; exact ⟨_, ⟨pq1, pq2, pq3, pq4, rfl, hq1, hq2⟩, hw⟩
  obtain ⟨pf45, rfl, e48, e49, e50, e51, e52, e53, e54, e55⟩ := hp46
  have e48 : (pf45 11).toInt = (pf22 11).toInt + 1 := e48
  have e49 : (pf45 11).toInt < (tf 6).toInt := e49
  have e50 : bp ta (pf22 11) + 1 ≤ bp ta (pf45 11) := e50
  have e51 : (pf45 12).toInt = (pf22 12).toInt - 1 := e51
  have e52 : (pf45 13).toInt = (pf22 13).toInt := e52
  have e53 : (pf45 24).toInt = (pf22 24).toInt := e53
  have e54 : (pf45 25).toInt = (pf22 25).toInt := e54
  have e55 : (pf45 26).toInt = (pf22 26).toInt := e55
  have hw : pw D A s.heap H locs [wdP cs h r g tf ta pf45 na23 ma24 wa25 cf ca ef ea xf xa] := hw
  refine lv_iload_n S.x S.b d_Mpg_inParentheses_17 rfl (lv_at hl 0 rfl) ?_
  exact th_iret (v := v27) S hr rfl hlk hAe hw (⟨pf45, na23, ma24, wa25, rfl, (show (pf 11).toInt + 1 ≤ (pf45 11).toInt from by first | exact oz_40adf82cfc e8 e48 e28 | omega), (show (pf45 11).toInt < (tf 6).toInt from by first | exact e49 | omega), (show (pf 13).toInt + 1 ≤ (pf45 13).toInt from by first | exact oz_56e011771b e14 e52 e30 | omega), (show (pf45 13).toInt - (pf 13).toInt ≤ (pf45 11).toInt - (pf 11).toInt from by first | exact oz_367be77e0e e8 e14 e48 e52 e31 | omega), (show bp ta (pf 11) + 1 ≤ bp ta (pf45 11) from by first | with_reducible rfl | with_reducible assumption | omega), (show (pf45 12).toInt = (pf 12).toInt from by first | exact oz_e2f0d2d242 e12 e51 e33 | omega), (show (pf45 24).toInt = (pf 24).toInt from by first | exact oz_e13fc83238 e15 e53 e34 | omega), (show (pf45 25).toInt = (pf 25).toInt from by first | exact oz_e13fc83238 e16 e54 e35 | omega), (show (pf45 26).toInt = (pf 26).toInt from by first | exact oz_e13fc83238 e17 e55 e36 | omega), (show FrB (pf 13).toInt na ma na23 ma24 from hfb), (show FrW (pf 26).toInt wa wa25 from hfw), (show ExR ta (tf 6).toInt na23 ma24 v27 (pf 13).toInt (pf45 13).toInt (3 * (bp ta (pf45 11) - bp ta (pf 11)) - 6) (pf 12).toInt from (ExR.le ht_v27 (by first | with_reducible rfl | with_reducible assumption | omega) (by first | with_reducible rfl | with_reducible assumption | omega) (by first | with_reducible rfl | with_reducible assumption | omega) (by first | with_reducible rfl | with_reducible assumption | omega))), (show FsI (tf 6).toInt (pf45 13).toInt na23 from (FsI.le hfs (by first | with_reducible rfl | with_reducible assumption | omega)))⟩) d_Mpg_inParentheses_18
abbrev b_Mpg_arrayValue : ByteArray := prog_16_method_46_code
def y_Mpg_arrayValue : MethodName := ⟨"HomeSystemModel$Program", "arrayValue", "(I)V"⟩
theorem d_Mpg_arrayValue_0 : decode b_Mpg_arrayValue 0 = .ok (.aload_n 0, 1) := by decide +kernel
theorem d_Mpg_arrayValue_1 : decode b_Mpg_arrayValue 1 = .ok (.getfield 222, 3) := by decide +kernel
theorem d_Mpg_arrayValue_4 : decode b_Mpg_arrayValue 4 = .ok (.iload_n 1, 1) := by decide +kernel
theorem d_Mpg_arrayValue_5 : decode b_Mpg_arrayValue 5 = .ok (.aload_n 0, 1) := by decide +kernel
theorem d_Mpg_arrayValue_6 : decode b_Mpg_arrayValue 6 = .ok (.getfield 360, 3) := by decide +kernel
theorem d_Mpg_arrayValue_9 : decode b_Mpg_arrayValue 9 = .ok (.iastore, 1) := by decide +kernel
theorem d_Mpg_arrayValue_10 : decode b_Mpg_arrayValue 10 = .ok (.aload_n 0, 1) := by decide +kernel
theorem d_Mpg_arrayValue_11 : decode b_Mpg_arrayValue 11 = .ok (.getfield 201, 3) := by decide +kernel
theorem d_Mpg_arrayValue_14 : decode b_Mpg_arrayValue 14 = .ok (.aload_n 0, 1) := by decide +kernel
theorem d_Mpg_arrayValue_15 : decode b_Mpg_arrayValue 15 = .ok (.getfield 360, 3) := by decide +kernel
theorem d_Mpg_arrayValue_18 : decode b_Mpg_arrayValue 18 = .ok (.baload, 1) := by decide +kernel
theorem d_Mpg_arrayValue_19 : decode b_Mpg_arrayValue 19 = .ok (.iconst 4, 1) := by decide +kernel
theorem d_Mpg_arrayValue_20 : decode b_Mpg_arrayValue 20 = .ok (.if_icmp .ne 21, 3) := by decide +kernel
theorem d_Mpg_arrayValue_23 : decode b_Mpg_arrayValue 23 = .ok (.aload_n 0, 1) := by decide +kernel
theorem d_Mpg_arrayValue_24 : decode b_Mpg_arrayValue 24 = .ok (.getfield 231, 3) := by decide +kernel
theorem d_Mpg_arrayValue_27 : decode b_Mpg_arrayValue 27 = .ok (.iload_n 1, 1) := by decide +kernel
theorem d_Mpg_arrayValue_28 : decode b_Mpg_arrayValue 28 = .ok (.iconst 3, 1) := by decide +kernel
theorem d_Mpg_arrayValue_29 : decode b_Mpg_arrayValue 29 = .ok (.iastore, 1) := by decide +kernel
theorem d_Mpg_arrayValue_30 : decode b_Mpg_arrayValue 30 = .ok (.aload_n 0, 1) := by decide +kernel
theorem d_Mpg_arrayValue_31 : decode b_Mpg_arrayValue 31 = .ok (.dup, 1) := by decide +kernel
theorem d_Mpg_arrayValue_32 : decode b_Mpg_arrayValue 32 = .ok (.getfield 360, 3) := by decide +kernel
theorem d_Mpg_arrayValue_35 : decode b_Mpg_arrayValue 35 = .ok (.iconst 1, 1) := by decide +kernel
theorem d_Mpg_arrayValue_36 : decode b_Mpg_arrayValue 36 = .ok (.iadd, 1) := by decide +kernel
theorem d_Mpg_arrayValue_37 : decode b_Mpg_arrayValue 37 = .ok (.putfield 360, 3) := by decide +kernel
theorem d_Mpg_arrayValue_40 : decode b_Mpg_arrayValue 40 = .ok (.return_, 1) := by decide +kernel
theorem d_Mpg_arrayValue_41 : decode b_Mpg_arrayValue 41 = .ok (.aload_n 0, 1) := by decide +kernel
theorem d_Mpg_arrayValue_42 : decode b_Mpg_arrayValue 42 = .ok (.getfield 231, 3) := by decide +kernel
theorem d_Mpg_arrayValue_45 : decode b_Mpg_arrayValue 45 = .ok (.iload_n 1, 1) := by decide +kernel
theorem d_Mpg_arrayValue_46 : decode b_Mpg_arrayValue 46 = .ok (.iconst 2, 1) := by decide +kernel
theorem d_Mpg_arrayValue_47 : decode b_Mpg_arrayValue 47 = .ok (.iastore, 1) := by decide +kernel
theorem d_Mpg_arrayValue_48 : decode b_Mpg_arrayValue 48 = .ok (.aload_n 0, 1) := by decide +kernel
theorem d_Mpg_arrayValue_49 : decode b_Mpg_arrayValue 49 = .ok (.ldc 91, 2) := by decide +kernel
theorem d_Mpg_arrayValue_51 : decode b_Mpg_arrayValue 51 = .ok (.invokevirtual 457, 3) := by decide +kernel
theorem d_Mpg_arrayValue_54 : decode b_Mpg_arrayValue 54 = .ok (.aload_n 0, 1) := by decide +kernel
theorem d_Mpg_arrayValue_55 : decode b_Mpg_arrayValue 55 = .ok (.invokevirtual 451, 3) := by decide +kernel
theorem d_Mpg_arrayValue_58 : decode b_Mpg_arrayValue 58 = .ok (.istore_n 2, 1) := by decide +kernel
theorem d_Mpg_arrayValue_59 : decode b_Mpg_arrayValue 59 = .ok (.aload_n 0, 1) := by decide +kernel
theorem d_Mpg_arrayValue_60 : decode b_Mpg_arrayValue 60 = .ok (.getfield 219, 3) := by decide +kernel
theorem d_Mpg_arrayValue_63 : decode b_Mpg_arrayValue 63 = .ok (.iload_n 1, 1) := by decide +kernel
theorem d_Mpg_arrayValue_64 : decode b_Mpg_arrayValue 64 = .ok (.iload_n 2, 1) := by decide +kernel
theorem d_Mpg_arrayValue_65 : decode b_Mpg_arrayValue 65 = .ok (.iastore, 1) := by decide +kernel
theorem d_Mpg_arrayValue_66 : decode b_Mpg_arrayValue 66 = .ok (.aload_n 0, 1) := by decide +kernel
theorem d_Mpg_arrayValue_67 : decode b_Mpg_arrayValue 67 = .ok (.ldc 99, 2) := by decide +kernel
theorem d_Mpg_arrayValue_69 : decode b_Mpg_arrayValue 69 = .ok (.invokevirtual 370, 3) := by decide +kernel
theorem d_Mpg_arrayValue_72 : decode b_Mpg_arrayValue 72 = .ok (.ifCond .eq 20, 3) := by decide +kernel
theorem d_Mpg_arrayValue_75 : decode b_Mpg_arrayValue 75 = .ok (.aload_n 0, 1) := by decide +kernel
theorem d_Mpg_arrayValue_76 : decode b_Mpg_arrayValue 76 = .ok (.invokevirtual 451, 3) := by decide +kernel
theorem d_Mpg_arrayValue_79 : decode b_Mpg_arrayValue 79 = .ok (.istore_n 3, 1) := by decide +kernel
theorem d_Mpg_arrayValue_80 : decode b_Mpg_arrayValue 80 = .ok (.aload_n 0, 1) := by decide +kernel
theorem d_Mpg_arrayValue_81 : decode b_Mpg_arrayValue 81 = .ok (.getfield 228, 3) := by decide +kernel
theorem d_Mpg_arrayValue_84 : decode b_Mpg_arrayValue 84 = .ok (.iload_n 2, 1) := by decide +kernel
theorem d_Mpg_arrayValue_85 : decode b_Mpg_arrayValue 85 = .ok (.iload_n 3, 1) := by decide +kernel
theorem d_Mpg_arrayValue_86 : decode b_Mpg_arrayValue 86 = .ok (.iastore, 1) := by decide +kernel
theorem d_Mpg_arrayValue_87 : decode b_Mpg_arrayValue 87 = .ok (.iload_n 3, 1) := by decide +kernel
theorem d_Mpg_arrayValue_88 : decode b_Mpg_arrayValue 88 = .ok (.istore_n 2, 1) := by decide +kernel
theorem d_Mpg_arrayValue_89 : decode b_Mpg_arrayValue 89 = .ok (.goto (-23), 3) := by decide +kernel
theorem d_Mpg_arrayValue_92 : decode b_Mpg_arrayValue 92 = .ok (.aload_n 0, 1) := by decide +kernel
theorem d_Mpg_arrayValue_93 : decode b_Mpg_arrayValue 93 = .ok (.ldc 93, 2) := by decide +kernel
theorem d_Mpg_arrayValue_95 : decode b_Mpg_arrayValue 95 = .ok (.invokevirtual 439, 3) := by decide +kernel
theorem d_Mpg_arrayValue_98 : decode b_Mpg_arrayValue 98 = .ok (.return_, 1) := by decide +kernel
theorem q_Mpg_arrayValue : px_y y_Mpg_arrayValue 1 := by unfold px_y; decide +kernel
set_option maxHeartbeats 4000000 in
set_option maxRecDepth 100000 in
theorem c_mp_arrayValue (l : Launch) (D : va_G) (cs : Nat → ClassId) (h : Nat) (r : Nat → Nat) (g : Nat → Nat → Option Nat) (tf : Nat → Int32) (ta : Nat → Nat → Int32) (cf : Nat → Int32) (ca : Nat → Nat → Int32) (ef : Nat → Int32) (ea : Nat → Nat → Int32) (xf : Nat → Int32) (xa : Nat → Nat → Int32) (pf : Nat → Int32) (na : Nat → Nat → Int32) (ma : Nat → Nat → Int32) (wa : Nat → Nat → Int32) (p0 : Int32) (lv : Nat) (g0 : 0 ≤ (pf 11).toInt) (g1 : (pf 11).toInt < (tf 6).toInt) (g2 : (tf 6).toInt ≤ 2049) (g3 : 0 ≤ (pf 12).toInt) (g4 : (pf 12).toInt ≤ 60) (g5 : 0 ≤ (pf 13).toInt) (g6 : (pf 13).toInt ≤ (pf 11).toInt + 10) (g7 : 0 ≤ (pf 26).toInt) (g8 : (pf 26).toInt ≤ (pf 12).toInt) (g9 : 61 ≤ (pf 12).toInt + (lv : Int)) (g10 : lv ≤ 61) (g11 : 0 ≤ p0.toInt) (g12 : p0.toInt < (pf 13).toInt) (hlf : l.flags = pinnedFlags ++ [noTraceFlag]) (htk : TkI tf ta) (hfs : FsI (tf 6).toInt (pf 13).toInt na) : ThV l y_Mpg_arrayValue b_Mpg_arrayValue 4 D cs (8 * lv + 22) (220 * lv + 1040) [.ref h, .int p0] [wdP cs h r g tf ta pf na ma wa cf ca ef ea xf xa] (oX (fun A U H => (oN A U H) ∧ (oP A g U H)) [wdP cs h r g tf ta pf na ma wa cf ca ef ea xf xa]) "java/lang/IllegalArgumentException" (fun ps => ∃ (pf' : Nat → Int32) (na' : Nat → Nat → Int32) (ma' : Nat → Nat → Int32) (wa' : Nat → Nat → Int32), (ps = [wdP cs h r g tf ta pf' na' ma' wa' cf ca ef ea xf xa]) ∧ ((pf 11).toInt + 1 ≤ (pf' 11).toInt) ∧ ((pf' 11).toInt < (tf 6).toInt) ∧ ((pf 13).toInt ≤ (pf' 13).toInt) ∧ ((pf' 13).toInt - (pf 13).toInt ≤ (pf' 11).toInt - (pf 11).toInt) ∧ (bp ta (pf 11) + 1 ≤ bp ta (pf' 11)) ∧ ((pf' 12).toInt = (pf 12).toInt) ∧ ((pf' 24).toInt = (pf 24).toInt) ∧ ((pf' 25).toInt = (pf 25).toInt) ∧ ((pf' 26).toInt = (pf 26).toInt) ∧ (FrV (pf 13).toInt p0 na ma na' ma') ∧ (FrW (pf 26).toInt wa wa') ∧ (AvV ta (tf 6).toInt na' ma' p0 (pf 11) (pf 13).toInt (pf' 13).toInt (3 * (bp ta (pf' 11) - bp ta (pf 11))) 130) ∧ (FsI (tf 6).toInt (pf' 13).toInt na')) (fun ps => ∃ (pf' : Nat → Int32) (na' : Nat → Nat → Int32) (ma' : Nat → Nat → Int32) (wa' : Nat → Nat → Int32), ps = [wdP cs h r g tf ta pf' na' ma' wa' cf ca ef ea xf xa] ∧ 0 ≤ (pf' 11).toInt ∧ (pf' 11).toInt + 1 ≤ (tf 6).toInt) := by
  refine th_enter (by decide) (Nat.le_of_ble_eq_true rfl) ?_
  intro p e s m below meth c A ls hAe S hr hlk hnm hA hT hX hw hl hne hadm
  have hl : lv_has ls 4 [(0, .ref h), (1, .int p0)] := hl
  have lp0 := Int32.le_toInt p0
  have up0 := Int32.toInt_lt p0
  have cst1 : (1 : Int32).toInt = 1 := rfl
  have cst2 : (2 : Int32).toInt = 2 := rfl
  have cst3 : (3 : Int32).toInt = 3 := rfl
  have cst4 : (4 : Int32).toInt = 4 := rfl
  have hX : (fun A U H => (oN A U H) ∧ (oP A g U H)) A s s.heap := by rw [hAe]; exact hX
  obtain ⟨hN, hP⟩ := hX
  have hZ := hP.1
  have hF0 := hP.2.1
  have hfb : FrV (pf 13).toInt p0 na ma na ma := FrV.rf (by first | with_reducible rfl | with_reducible assumption | omega) (by first | with_reducible rfl | with_reducible assumption | omega)
  have hfw : FrW (pf 26).toInt wa wa := FrW.rf
  have J66 : ∀ (n_66 : Nat) (pf_66 : Nat → Int32) (na_66 : Nat → Nat → Int32) (ma_66 : Nat → Nat → Int32) (wa_66 : Nat → Nat → Int32) (x66_2 : Int32) (H : Heap) (locs : List Loc) (ls : Array Slot), ((pf_66 24).toInt = (pf 24).toInt) → ((pf_66 25).toInt = (pf 25).toInt) → ((pf_66 26).toInt = (pf 26).toInt) → ((pf_66 12).toInt = (pf 12).toInt + 1) → ((pf_66 12).toInt ≤ 60) → ((pf 11).toInt + 2 ≤ (pf_66 11).toInt) → ((pf_66 11).toInt < (tf 6).toInt) → ((pf 13).toInt + 1 ≤ (pf_66 13).toInt) → ((pf_66 13).toInt - (pf 13).toInt ≤ (pf_66 11).toInt - (pf 11).toInt) → (bp ta (pf 11) + 2 ≤ bp ta (pf_66 11)) → (FrV (pf 13).toInt p0 na ma na_66 ma_66) → (FrW (pf 26).toInt wa wa_66) → (FlN ma_66 19 p0 (pf 11)) → (FlN ma_66 22 p0 2) → (RfC ta (tf 6).toInt na_66 ma_66 (ma_66 18) p0 x66_2 (pf 13).toInt (pf_66 13).toInt (3 * (bp ta (pf_66 11) - bp ta (pf 11))) 130) → (FsI (tf 6).toInt (pf_66 13).toInt na_66) → (tf 6).toInt - (pf_66 11).toInt < (n_66 : Int) → pw D A s.heap H locs [wdP cs h r g tf ta pf_66 na_66 ma_66 wa_66 cf ca ef ea xf xa] → lv_has ls 4 [(0, .ref h), (1, .int p0), (2, .int x66_2)] → W p l e { frames := (8 * lv + 22), cells := 1, slots := 6, locals := (220 * lv + 1040) } s m [.ref h, .int p0].toArray below meth c H locs 0 0 (tx_MQ below (thQv D (va_A ([wdP cs h r g tf ta pf na ma wa cf ca ef ea xf xa] : List va_W).flatten s.heap.size) "java/lang/IllegalArgumentException" (fun ps => ∃ (pf' : Nat → Int32) (na' : Nat → Nat → Int32) (ma' : Nat → Nat → Int32) (wa' : Nat → Nat → Int32), (ps = [wdP cs h r g tf ta pf' na' ma' wa' cf ca ef ea xf xa]) ∧ ((pf 11).toInt + 1 ≤ (pf' 11).toInt) ∧ ((pf' 11).toInt < (tf 6).toInt) ∧ ((pf 13).toInt ≤ (pf' 13).toInt) ∧ ((pf' 13).toInt - (pf 13).toInt ≤ (pf' 11).toInt - (pf 11).toInt) ∧ (bp ta (pf 11) + 1 ≤ bp ta (pf' 11)) ∧ ((pf' 12).toInt = (pf 12).toInt) ∧ ((pf' 24).toInt = (pf 24).toInt) ∧ ((pf' 25).toInt = (pf 25).toInt) ∧ ((pf' 26).toInt = (pf 26).toInt) ∧ (FrV (pf 13).toInt p0 na ma na' ma') ∧ (FrW (pf 26).toInt wa wa') ∧ (AvV ta (tf 6).toInt na' ma' p0 (pf 11) (pf 13).toInt (pf' 13).toInt (3 * (bp ta (pf' 11) - bp ta (pf 11))) 130) ∧ (FsI (tf 6).toInt (pf' 13).toInt na')) (fun ps => ∃ (pf' : Nat → Int32) (na' : Nat → Nat → Int32) (ma' : Nat → Nat → Int32) (wa' : Nat → Nat → Int32), ps = [wdP cs h r g tf ta pf' na' ma' wa' cf ca ef ea xf xa] ∧ 0 ≤ (pf' 11).toInt ∧ (pf' 11).toInt + 1 ≤ (tf 6).toInt) s.heap.size (tot s.heap)) [.ref h, .int p0].toArray s 1 6 A) (F0 m 66 ls []) := by
    intro  n_66
    induction n_66 with
    | zero =>
      intro pf_66 na_66 ma_66 wa_66 x66_2 H locs ls k66_0 k66_1 k66_2 k66_3 k66_4 k66_5 k66_6 k66_7 k66_8 k66_9 k66_10 k66_11 k66_12 k66_13 k66_14 k66_15 hm hw hl
      have lx66_2 := Int32.le_toInt x66_2
      have ux66_2 := Int32.toInt_lt x66_2
      have hfb := k66_10
      have hfw := k66_11
      have hf_19_p0 : ma_66 19 p0.toNatClampNeg = (pf 11) := k66_12
      have hf_22_p0 : ma_66 22 p0.toNatClampNeg = 2 := k66_13
      obtain ⟨b1, hf_18_p0, hrw_x66_2⟩ := k66_14
      have hn_hrw_x66_2 := hrw_x66_2.num
      have hfs := k66_15
      exact absurd hm (by first | with_reducible rfl | with_reducible assumption | omega)
    | succ n_66 ih66 =>
      intro pf_66 na_66 ma_66 wa_66 x66_2 H locs ls k66_0 k66_1 k66_2 k66_3 k66_4 k66_5 k66_6 k66_7 k66_8 k66_9 k66_10 k66_11 k66_12 k66_13 k66_14 k66_15 hm hw hl
      have lx66_2 := Int32.le_toInt x66_2
      have ux66_2 := Int32.toInt_lt x66_2
      have hfb := k66_10
      have hfw := k66_11
      have hf_19_p0 : ma_66 19 p0.toNatClampNeg = (pf 11) := k66_12
      have hf_22_p0 : ma_66 22 p0.toNatClampNeg = 2 := k66_13
      obtain ⟨b2, hf_18_p0, hrw_x66_2⟩ := k66_14
      have hn_hrw_x66_2 := hrw_x66_2.num
      have hfs := k66_15
      refine lv_aload_n S.x S.b d_Mpg_arrayValue_66 rfl (lv_at hl 0 rfl) ?_
      obtain ⟨sk3, hRsk3, st4, sb5, hSsk3⟩ := oP_lit hP (k := 99) (tx := ",") (n := 1) (List.mem_of_getElem? (i := 41) rfl)
      refine va_ldcS S.x S.b S.own hRsk3 d_Mpg_arrayValue_67 ?_
      refine px_calli (pr := []) (px_runV (As := [.ref sk3]) (rest := []) S (c_mp_takes l D cs sk3 1 h r g tf ta na_66 ma_66 wa_66 cf ca ef ea xf xa pf_66   (show 0 ≤ (pf_66 11).toInt from by first | exact oz_f101e7799b k66_5 g0 | omega) (show (pf_66 11).toInt < (tf 6).toInt from by first | exact k66_6 | omega) (show (tf 6).toInt ≤ 2049 from by first | exact g2 | omega) (show 1 ≤ 100 from by first | decide | omega) htk _) hT (pr := []) (pcs := [wdP cs h r g tf ta pf_66 na_66 ma_66 wa_66 cf ca ef ea xf xa]) hw (oX_call (P := (fun A U H => (oP A g U H) ∧ (StS A sk3 1 U H))) (pr := []) (oG_and oG_P oG_Q) hw hA ⟨hP, ⟨_, _, hSsk3⟩⟩) (px_recv hT hw 0 0 rfl rfl rfl) m12_6 m12_3 m12_5 ms_9_3 m1_21 q_Mpg_takes ⟨show 4 + 1 ≤ (8 * lv + 22) from by first | with_reducible rfl | with_reducible assumption | omega, show 8 + (3 + 11) + 160 ≤ (220 * lv + 1040) from by first | with_reducible rfl | with_reducible assumption | omega⟩ hl.1 rfl (Nat.le_of_ble_eq_true rfl) d_Mpg_arrayValue_69 ⟨Nat.le_of_ble_eq_true rfl, Nat.le_of_ble_eq_true rfl⟩) hw hA (fun v9 p8 H locs hp8 hw => ?_)
      obtain ⟨pf7, rfl, e10, e11, e12, e13, e14, e15, e16, e17, e18⟩ := hp8
      have e10 := z_rng e10
      have e11 : (pf7 11).toInt = (pf_66 11).toInt + v9.toInt := e11
      have e12 : (pf7 11).toInt < (tf 6).toInt := e12
      have e13 : bp ta (pf_66 11) + v9.toInt ≤ bp ta (pf7 11) := e13
      have e14 : (pf7 12).toInt = (pf_66 12).toInt := e14
      have e15 : (pf7 13).toInt = (pf_66 13).toInt := e15
      have e16 : (pf7 24).toInt = (pf_66 24).toInt := e16
      have e17 : (pf7 25).toInt = (pf_66 25).toInt := e17
      have e18 : (pf7 26).toInt = (pf_66 26).toInt := e18
      have hw : pw D A s.heap H locs [wdP cs h r g tf ta pf7 na_66 ma_66 wa_66 cf ca ef ea xf xa] := hw
      have lv9 := Int32.le_toInt v9
      have uv9 := Int32.toInt_lt v9
      refine lv_if_eq (tgt := 92) S.x S.b d_Mpg_arrayValue_72 (by decide) (fun c19 => ?_) (fun c19 => ?_)
      · have nc19 : v9.toInt = (0 : Int) := (i_eq (x := v9) (y := 0)).mp c19
        refine lv_aload_n S.x S.b d_Mpg_arrayValue_92 rfl (lv_at hl 0 rfl) ?_
        obtain ⟨sk20, hRsk20, st21, sb22, hSsk20⟩ := oP_lit hP (k := 93) (tx := "}") (n := 1) (List.mem_of_getElem? (i := 38) rfl)
        refine va_ldcS S.x S.b S.own hRsk20 d_Mpg_arrayValue_93 ?_
        refine th_callv (ps0 := [wdP cs h r g tf ta pf na ma wa cf ca ef ea xf xa]) (pr := []) (pcs := [wdP cs h r g tf ta pf7 na_66 ma_66 wa_66 cf ca ef ea xf xa]) (As := [.ref sk20]) (rest := []) (c_mp_closes l D cs sk20 1 h r g tf ta na_66 ma_66 wa_66 cf ca ef ea xf xa pf7   (show 0 ≤ (pf7 11).toInt from by first | exact oz_b64b673260 e11 k66_5 e10.1 g0 | omega) (show (pf7 11).toInt < (tf 6).toInt from by first | exact e12 | omega) (show (tf 6).toInt ≤ 2049 from by first | exact g2 | omega) (show 1 ≤ (pf7 12).toInt from by first | exact oz_a564fc7457 e14 k66_3 g8 g7 | omega) (show (pf7 12).toInt ≤ 60 from by first | exact oz_a3db38fa3c e14 k66_4 | omega) (show 1 ≤ 100 from by first | decide | omega) hlf htk) S hT hw (oX_call (P := (fun A U H => (oN A U H) ∧ (oP A g U H) ∧ (StS A sk20 1 U H))) (pr := []) (oG_and oG_N (oG_and oG_P oG_Q)) hw hA ⟨hN, hP, ⟨_, _, hSsk20⟩⟩) (px_recv hT hw 0 0 rfl rfl rfl) m12_53 m12_50 m12_52 ms_9_14 m1_21 q_Mpg_closes ⟨show 8 + 1 ≤ (8 * lv + 22) from by first | with_reducible rfl | with_reducible assumption | omega, show 8 + (2 + 11) + 280 ≤ (220 * lv + 1040) from by first | with_reducible rfl | with_reducible assumption | omega⟩ hl.1 rfl (Nat.le_of_ble_eq_true rfl) d_Mpg_arrayValue_95 ⟨Nat.le_of_ble_eq_true rfl, Nat.le_of_ble_eq_true rfl⟩ hne hlk hA hAe (fun o t h => Or.inr h) ?_ (fun p25 H locs hp25 hw => ?_)
        · exact fun p1 H1 locs1 hp hw => by obtain ⟨pq1, pq2, pq3, pq4, rfl, hq1, hq2⟩ := hp; exact ⟨_, ⟨pq1, pq2, pq3, pq4, rfl, hq1, hq2⟩, hw⟩
        obtain ⟨pf24, rfl, e27, e28, e29, e30, e31, e32, e33, e34⟩ := hp25
        have e27 : (pf24 11).toInt = (pf7 11).toInt + 1 := e27
        have e28 : (pf24 11).toInt < (tf 6).toInt := e28
        have e29 : bp ta (pf7 11) + 1 ≤ bp ta (pf24 11) := e29
        have e30 : (pf24 12).toInt = (pf7 12).toInt - 1 := e30
        have e31 : (pf24 13).toInt = (pf7 13).toInt := e31
        have e32 : (pf24 24).toInt = (pf7 24).toInt := e32
        have e33 : (pf24 25).toInt = (pf7 25).toInt := e33
        have e34 : (pf24 26).toInt = (pf7 26).toInt := e34
        have hw : pw D A s.heap H locs [wdP cs h r g tf ta pf24 na_66 ma_66 wa_66 cf ca ef ea xf xa] := hw
        exact th_vret S hr hlk hAe hw (⟨pf24, na_66, ma_66, wa_66, rfl, (show (pf 11).toInt + 1 ≤ (pf24 11).toInt from by first | exact oz_94d32250eb k66_5 e27 e11 e10.1 | omega), (show (pf24 11).toInt < (tf 6).toInt from by first | exact e28 | omega), (show (pf 13).toInt ≤ (pf24 13).toInt from by first | exact oz_2ebd56080c k66_7 e31 e15 | omega), (show (pf24 13).toInt - (pf 13).toInt ≤ (pf24 11).toInt - (pf 11).toInt from by first | exact oz_30a30b177f k66_8 e27 e31 e11 e15 e10.1 | omega), (show bp ta (pf 11) + 1 ≤ bp ta (pf24 11) from by first | with_reducible rfl | with_reducible assumption | omega), (show (pf24 12).toInt = (pf 12).toInt from by first | exact oz_e2f0d2d242 k66_3 e30 e14 | omega), (show (pf24 24).toInt = (pf 24).toInt from by first | exact oz_e13fc83238 k66_0 e32 e16 | omega), (show (pf24 25).toInt = (pf 25).toInt from by first | exact oz_e13fc83238 k66_1 e33 e17 | omega), (show (pf24 26).toInt = (pf 26).toInt from by first | exact oz_e13fc83238 k66_2 e34 e18 | omega), (show FrV (pf 13).toInt p0 na ma na_66 ma_66 from hfb), (show FrW (pf 26).toInt wa wa_66 from hfw), (show AvV ta (tf 6).toInt na_66 ma_66 p0 (pf 11) (pf 13).toInt (pf24 13).toInt (3 * (bp ta (pf24 11) - bp ta (pf 11))) 130 from ⟨hf_19_p0, ⟨by first | with_reducible rfl | with_reducible assumption | omega, by first | with_reducible rfl | with_reducible assumption | omega⟩, Or.inr ⟨hf_22_p0, _, _, hf_18_p0, RwV.le hrw_x66_2 (by first | with_reducible rfl | with_reducible assumption | omega) (by first | with_reducible rfl | with_reducible assumption | omega) (by first | with_reducible rfl | with_reducible assumption | omega) (by first | with_reducible rfl | with_reducible assumption | omega)⟩⟩), (show FsI (tf 6).toInt (pf24 13).toInt na_66 from (FsI.le hfs (by first | with_reducible rfl | with_reducible assumption | omega)))⟩) d_Mpg_arrayValue_98
      · have nc19 : ¬ v9.toInt = (0 : Int) := mt (i_eq (x := v9) (y := 0)).mpr c19
        refine lv_aload_n S.x S.b d_Mpg_arrayValue_75 rfl (lv_at hl 0 rfl) ?_
        refine th_calli (ps0 := [wdP cs h r g tf ta pf na ma wa cf ca ef ea xf xa]) (pr := []) (pcs := [wdP cs h r g tf ta pf7 na_66 ma_66 wa_66 cf ca ef ea xf xa]) (As := []) (rest := []) (c_mp_constant l D cs h r g tf ta cf ca ef ea xf xa pf7 na_66 ma_66 wa_66  lv (show 0 ≤ (pf7 11).toInt from by first | exact oz_b64b673260 e11 k66_5 e10.1 g0 | omega) (show (pf7 11).toInt < (tf 6).toInt from by first | exact e12 | omega) (show (tf 6).toInt ≤ 2049 from by first | exact g2 | omega) (show 0 ≤ (pf7 12).toInt from by first | exact oz_aec871f755 e14 k66_3 g8 g7 | omega) (show (pf7 12).toInt ≤ 60 from by first | exact oz_a3db38fa3c e14 k66_4 | omega) (show 0 ≤ (pf7 13).toInt from by first | exact oz_0ca4cad411 e15 k66_7 g12 g11 | omega) (show (pf7 13).toInt ≤ (pf7 11).toInt + 10 from by first | exact oz_a8f84bca48 e11 e15 k66_8 e10.1 g6 | omega) (show 0 ≤ (pf7 26).toInt from by first | exact oz_e2fef14871 e18 k66_2 g7 | omega) (show (pf7 26).toInt ≤ (pf7 12).toInt from by first | exact oz_fa9ebf953c e14 e18 k66_2 k66_3 g8 | omega) (show 61 ≤ (pf7 12).toInt + (lv : Int) from by first | exact oz_6dd5f776aa g9 e14 k66_3 | omega) (show lv ≤ 61 from by first | exact g10 | omega) hlf htk (FsI.le (N' := (pf7 13).toInt) hfs (by first | with_reducible rfl | with_reducible assumption | omega))) S hT hw (oX_call (P := (fun A U H => (oN A U H) ∧ (oP A g U H))) (pr := []) (oG_and oG_N oG_P) hw hA ⟨hN, hP⟩) (px_recv hT hw 0 0 rfl rfl rfl) m12_10 m12_7 m12_9 ms_9_4 m1_21 q_Mpg_constant ⟨show (8 * lv + 21) + 1 ≤ (8 * lv + 22) from by first | with_reducible rfl | with_reducible assumption | omega, show 8 + (2 + 11) + (220 * lv + 720) ≤ (220 * lv + 1040) from by first | with_reducible rfl | with_reducible assumption | omega⟩ hl.1 rfl (Nat.le_of_ble_eq_true rfl) d_Mpg_arrayValue_76 ⟨Nat.le_of_ble_eq_true rfl, Nat.le_of_ble_eq_true rfl⟩ hne hlk hA hAe (fun o t h => Or.inr h) ?_ (fun v44 p43 H locs hp43 hw => ?_)
        · exact fun p1 H1 locs1 hp hw => by obtain ⟨pq1, pq2, pq3, pq4, rfl, hq1, hq2⟩ := hp; exact ⟨_, ⟨pq1, pq2, pq3, pq4, rfl, hq1, hq2⟩, hw⟩
        obtain ⟨pf39, na40, ma41, wa42, rfl, e45, e46, e47, e48, e49, e50, e51, e52, e53, e54, e55, e56, e57⟩ := hp43
        have e45 : (pf7 11).toInt + 1 ≤ (pf39 11).toInt := e45
        have e46 : (pf39 11).toInt < (tf 6).toInt := e46
        have e47 : (pf7 13).toInt + 1 ≤ (pf39 13).toInt := e47
        have e48 : (pf39 13).toInt - (pf7 13).toInt ≤ (pf39 11).toInt - (pf7 11).toInt := e48
        have e49 : bp ta (pf7 11) + 1 ≤ bp ta (pf39 11) := e49
        have e50 : (pf39 12).toInt = (pf7 12).toInt := e50
        have e51 : (pf39 24).toInt = (pf7 24).toInt := e51
        have e52 : (pf39 25).toInt = (pf7 25).toInt := e52
        have e53 : (pf39 26).toInt = (pf7 26).toInt := e53
        have e54 : FrB (pf7 13).toInt na_66 ma_66 na40 ma41 := e54
        have hf_19_p0 := (fb_m e54 (by first | with_reducible rfl | with_reducible assumption | omega) (by first | with_reducible rfl | with_reducible assumption | omega)).trans hf_19_p0
        have hf_22_p0 := (fb_m e54 (by first | with_reducible rfl | with_reducible assumption | omega) (by first | with_reducible rfl | with_reducible assumption | omega)).trans hf_22_p0
        have hf_18_p0 := (fb_m e54 (by first | with_reducible rfl | with_reducible assumption | omega) (by first | with_reducible rfl | with_reducible assumption | omega)).trans hf_18_p0
        have hrw_x66_2 := hrw_x66_2.ag fc_ok (FrB.ag e54 (by first | with_reducible rfl | with_reducible assumption | omega))
        have hfb := hfb.tr e54 (by first | with_reducible rfl | with_reducible assumption | omega)
        have e55 : FrW (pf7 26).toInt wa_66 wa42 := e55
        have hfw := hfw.tr e55 (by first | with_reducible rfl | with_reducible assumption | omega)
        have e56 : ExR ta (tf 6).toInt na40 ma41 v44 (pf7 13).toInt (pf39 13).toInt (3 * (bp ta (pf39 11) - bp ta (pf7 11))) (pf7 12).toInt := e56
        have ht_v44 := e56
        have hn_ht_v44 := ht_v44.num
        have e57 : FsI (tf 6).toInt (pf39 13).toInt na40 := e57
        have hfs := e57
        have hw : pw D A s.heap H locs [wdP cs h r g tf ta pf39 na40 ma41 wa42 cf ca ef ea xf xa] := hw
        have lv44 := Int32.le_toInt v44
        have uv44 := Int32.toInt_lt v44
        refine lv_istore_n (lv' := [(3, .int v44), (0, .ref h), (1, .int p0), (2, .int x66_2)]) S.x S.b d_Mpg_arrayValue_79 rfl hl (by decide) rfl (fun ls hl => ?_)
        have hv_v44 := vl_c (exr_vl ht_v44 (by first | with_reducible rfl | with_reducible assumption | omega)); have hn_hv_v44 := hv_v44.num fc_ok
        refine lv_aload_n S.x S.b d_Mpg_arrayValue_80 rfl (lv_at hl 1 rfl) ?_
        refine px_get S k_Mpg hT hw 0 0 21 (v := .ref (r 21)) rfl rfl rfl (by decide) m10_7 d_Mpg_arrayValue_81 ?_
        refine lv_iload_n S.x S.b d_Mpg_arrayValue_84 rfl (lv_at hl 3 rfl) ?_
        refine lv_iload_n S.x S.b d_Mpg_arrayValue_85 rfl (lv_at hl 0 rfl) ?_
        refine px_iast S hT hw 0 17 (n := 2100) (f := (na40 21)) (x := x66_2) (y := v44) rfl gp_21 (vp_in_iff.mpr (by constructor <;> omega)) d_Mpg_arrayValue_86 (w' := wdP cs h r g tf ta pf39 (va_up na40 21 (upd (na40 21) x66_2.toNatClampNeg v44)) ma41 wa42 cf ca ef ea xf xa) (ps' := [wdP cs h r g tf ta pf39 (va_up na40 21 (upd (na40 21) x66_2.toNatClampNeg v44)) ma41 wa42 cf ca ef ea xf xa]) sp_21 rfl (fun H locs hw => ?_)
        obtain ⟨na58, hu_na58⟩ : ∃ y : Nat → Nat → Int32, y = va_up na40 21 (upd (na40 21) x66_2.toNatClampNeg v44) := ⟨_, rfl⟩
        have hw : pw D A s.heap _ _ [wdP cs h r g tf ta pf39 na58 ma41 wa42 cf ca ef ea xf xa] := (by rw [hu_na58]; exact hw)
        have hrw_v44 := row_s hrw_x66_2 (VlV.le hv_v44 (by first | with_reducible rfl | with_reducible assumption | omega) (Int.le_refl _) (Int.le_refl _) (by first | with_reducible rfl | with_reducible assumption | omega)) fc_ok (by first | with_reducible rfl | with_reducible assumption | omega) hu_na58
        have hn_hrw_v44 := hrw_v44.num
        have hf_21_x66_2 : na58 21 x66_2.toNatClampNeg = v44 := (by rw [hu_na58, va_up_s, pk_us])
        have hfs : FsI _ _ na58 := (by rw [hu_na58]; exact FsI.un hfs (by decide))
        have hfb := FrV.un hfb (by first | with_reducible rfl | with_reducible assumption | omega) (by first | with_reducible rfl | with_reducible assumption | omega) hu_na58
        refine lv_iload_n S.x S.b d_Mpg_arrayValue_87 rfl (lv_at hl 0 rfl) ?_
        refine lv_istore_n (lv' := [(2, .int v44), (3, .int v44), (0, .ref h), (1, .int p0)]) S.x S.b d_Mpg_arrayValue_88 rfl hl (by decide) rfl (fun ls hl => ?_)
        refine lv_goto (tgt := 66) S.x S.b d_Mpg_arrayValue_89 (by decide) ?_
        exact ih66 pf39 na58 ma41 wa42 v44 _ _ ls (show (pf39 24).toInt = (pf 24).toInt from by first | exact oz_e13fc83238 k66_0 e51 e16 | omega) (show (pf39 25).toInt = (pf 25).toInt from by first | exact oz_e13fc83238 k66_1 e52 e17 | omega) (show (pf39 26).toInt = (pf 26).toInt from by first | exact oz_e13fc83238 k66_2 e53 e18 | omega) (show (pf39 12).toInt = (pf 12).toInt + 1 from by first | exact oz_706b28522e k66_3 e50 e14 | omega) (show (pf39 12).toInt ≤ 60 from by first | exact oz_d791cd839d e50 e14 k66_4 | omega) (show (pf 11).toInt + 2 ≤ (pf39 11).toInt from by first | exact oz_75767867f4 k66_5 e45 e11 e10.1 | omega) (show (pf39 11).toInt < (tf 6).toInt from by first | exact e46 | omega) (show (pf 13).toInt + 1 ≤ (pf39 13).toInt from by first | exact oz_fab14cc7ba k66_7 e47 e15 | omega) (show (pf39 13).toInt - (pf 13).toInt ≤ (pf39 11).toInt - (pf 11).toInt from by first | exact oz_69e545e602 k66_8 e48 e11 e15 e10.1 | omega) (show bp ta (pf 11) + 2 ≤ bp ta (pf39 11) from by first | with_reducible rfl | with_reducible assumption | omega) (show FrV (pf 13).toInt p0 na ma na58 ma41 from hfb) (show FrW (pf 26).toInt wa wa42 from hfw) (show FlN ma41 19 p0 (pf 11) from hf_19_p0) (show FlN ma41 22 p0 2 from hf_22_p0) (show RfC ta (tf 6).toInt na58 ma41 (ma41 18) p0 v44 (pf 13).toInt (pf39 13).toInt (3 * (bp ta (pf39 11) - bp ta (pf 11))) 130 from ⟨_, hf_18_p0, (RwV.le hrw_v44 (by first | with_reducible rfl | with_reducible assumption | omega) (by first | with_reducible rfl | with_reducible assumption | omega) (by first | with_reducible rfl | with_reducible assumption | omega) (by first | with_reducible rfl | with_reducible assumption | omega))⟩) (show FsI (tf 6).toInt (pf39 13).toInt na58 from (FsI.le hfs (by first | with_reducible rfl | with_reducible assumption | omega))) (show (tf 6).toInt - (pf39 11).toInt < (n_66 : Int) from by first | exact oz_4be6ec72e9 hm e45 e11 e10.1 | omega) hw (lv_sub hl [2, 3, 0] rfl)
  refine lv_aload_n S.x S.b d_Mpg_arrayValue_0 rfl (lv_at hl 0 rfl) ?_
  refine px_get S k_Mpg hT hw 0 0 19 (v := .ref (r 19)) rfl rfl rfl (by decide) m10_5 d_Mpg_arrayValue_1 ?_
  refine lv_iload_n S.x S.b d_Mpg_arrayValue_4 rfl (lv_at hl 1 rfl) ?_
  refine lv_aload_n S.x S.b d_Mpg_arrayValue_5 rfl (lv_at hl 0 rfl) ?_
  refine px_get S k_Mpg hT hw 0 0 11 (v := .int (pf 11)) rfl rfl rfl (by decide) m9_235 d_Mpg_arrayValue_6 ?_
  refine px_iast S hT hw 0 15 (n := 2100) (f := (ma 19)) (x := p0) (y := (pf 11)) rfl gp_19 (vp_in_iff.mpr (by constructor <;> omega)) d_Mpg_arrayValue_9 (w' := wdP cs h r g tf ta pf na (va_up ma 19 (upd (ma 19) p0.toNatClampNeg (pf 11))) wa cf ca ef ea xf xa) (ps' := [wdP cs h r g tf ta pf na (va_up ma 19 (upd (ma 19) p0.toNatClampNeg (pf 11))) wa cf ca ef ea xf xa]) sp_19 rfl (fun H locs hw => ?_)
  obtain ⟨ma59, hu_ma59⟩ : ∃ y : Nat → Nat → Int32, y = va_up ma 19 (upd (ma 19) p0.toNatClampNeg (pf 11)) := ⟨_, rfl⟩
  have hw : pw D A s.heap _ _ [wdP cs h r g tf ta pf na ma59 wa cf ca ef ea xf xa] := (by rw [hu_ma59]; exact hw)
  have hf_19_p0 : ma59 19 p0.toNatClampNeg = (pf 11) := (by rw [hu_ma59, va_up_s, pk_us])
  have hfb := FrV.us hfb (by decide) hu_ma59
  refine lv_aload_n S.x S.b d_Mpg_arrayValue_10 rfl (lv_at hl 0 rfl) ?_
  refine px_get S k_Mpg hT hw 0 0 9 (v := .ref (r 9)) rfl rfl rfl (by decide) m9_233 d_Mpg_arrayValue_11 ?_
  refine lv_aload_n S.x S.b d_Mpg_arrayValue_14 rfl (lv_at hl 0 rfl) ?_
  refine px_get S k_Mpg hT hw 0 0 11 (v := .int (pf 11)) rfl rfl rfl (by decide) m9_235 d_Mpg_arrayValue_15 ?_
  refine px_bald S hT hw 0 8 (n := 2060) (f := (ta 9)) rfl gp_9 (x := (pf 11)) (vp_in_iff.mpr (by first | exact oz_846323bf3a g0 g1 g2 | (constructor <;> omega))) d_Mpg_arrayValue_18 ?_
  refine lv_topi (fun z60 ez60 => ?_)
  have lz60 := Int32.le_toInt z60
  have uz60 := Int32.toInt_lt z60
  have rz60 := tk_s htk (x := (pf 11)) (by first | with_reducible rfl | with_reducible assumption | omega) (by first | with_reducible rfl | with_reducible assumption | omega) ez60
  have hz4 := tk_b htk (x := (pf 11)) (by first | with_reducible rfl | with_reducible assumption | omega) (by first | with_reducible rfl | with_reducible assumption | omega)
  refine lv_iconst (v := 4) S.x S.b d_Mpg_arrayValue_19 (by decide) ?_
  refine lv_icmp_ne (tgt := 41) S.x S.b d_Mpg_arrayValue_20 (by decide) (fun c61 => ?_) (fun c61 => ?_)
  · have nc61 : ¬ z60.toInt = (4 : Int) := mt (i_eq (x := z60) (y := 4)).mpr c61
    refine lv_aload_n S.x S.b d_Mpg_arrayValue_41 rfl (lv_at hl 0 rfl) ?_
    refine px_get S k_Mpg hT hw 0 0 22 (v := .ref (r 22)) rfl rfl rfl (by decide) m10_9 d_Mpg_arrayValue_42 ?_
    refine lv_iload_n S.x S.b d_Mpg_arrayValue_45 rfl (lv_at hl 1 rfl) ?_
    refine lv_iconst (v := 2) S.x S.b d_Mpg_arrayValue_46 (by decide) ?_
    refine px_iast S hT hw 0 18 (n := 2100) (f := (ma59 22)) (x := p0) (y := 2) rfl gp_22 (vp_in_iff.mpr (by constructor <;> omega)) d_Mpg_arrayValue_47 (w' := wdP cs h r g tf ta pf na (va_up ma59 22 (upd (ma59 22) p0.toNatClampNeg 2)) wa cf ca ef ea xf xa) (ps' := [wdP cs h r g tf ta pf na (va_up ma59 22 (upd (ma59 22) p0.toNatClampNeg 2)) wa cf ca ef ea xf xa]) sp_22 rfl (fun H locs hw => ?_)
    obtain ⟨ma62, hu_ma62⟩ : ∃ y : Nat → Nat → Int32, y = va_up ma59 22 (upd (ma59 22) p0.toNatClampNeg 2) := ⟨_, rfl⟩
    have hw : pw D A s.heap _ _ [wdP cs h r g tf ta pf na ma62 wa cf ca ef ea xf xa] := (by rw [hu_ma62]; exact hw)
    have hf_19_p0 := (fl_n hu_ma62 (by decide)).trans hf_19_p0
    have hf_22_p0 : ma62 22 p0.toNatClampNeg = (2 : Int32) := (by rw [hu_ma62, va_up_s, pk_us])
    have hfb := FrV.us hfb (by decide) hu_ma62
    refine lv_aload_n S.x S.b d_Mpg_arrayValue_48 rfl (lv_at hl 0 rfl) ?_
    obtain ⟨sk63, hRsk63, st64, sb65, hSsk63⟩ := oP_lit hP (k := 91) (tx := "{") (n := 1) (List.mem_of_getElem? (i := 37) rfl)
    refine va_ldcS S.x S.b S.own hRsk63 d_Mpg_arrayValue_49 ?_
    refine th_callv (ps0 := [wdP cs h r g tf ta pf na ma wa cf ca ef ea xf xa]) (pr := []) (pcs := [wdP cs h r g tf ta pf na ma62 wa cf ca ef ea xf xa]) (As := [.ref sk63]) (rest := []) (c_mp_opensMark l D cs sk63 1 h r g tf ta na ma62 wa cf ca ef ea xf xa pf   (show 0 ≤ (pf 11).toInt from by first | exact g0 | omega) (show (pf 11).toInt < (tf 6).toInt from by first | exact g1 | omega) (show (tf 6).toInt ≤ 2049 from by first | exact g2 | omega) (show 0 ≤ (pf 12).toInt from by first | exact g3 | omega) (show (pf 12).toInt ≤ 60 from by first | exact g4 | omega) (show 1 ≤ 100 from by first | decide | omega) hlf htk) S hT hw (oX_call (P := (fun A U H => (oN A U H) ∧ (oP A g U H) ∧ (StS A sk63 1 U H))) (pr := []) (oG_and oG_N (oG_and oG_P oG_Q)) hw hA ⟨hN, hP, ⟨_, _, hSsk63⟩⟩) (px_recv hT hw 0 0 rfl rfl rfl) m11_213 m11_210 m11_212 ms_8_13 m1_21 q_Mpg_opensMark ⟨show 8 + 1 ≤ (8 * lv + 22) from by first | with_reducible rfl | with_reducible assumption | omega, show 8 + (2 + 11) + 240 ≤ (220 * lv + 1040) from by first | with_reducible rfl | with_reducible assumption | omega⟩ hl.1 rfl (Nat.le_of_ble_eq_true rfl) d_Mpg_arrayValue_51 ⟨Nat.le_of_ble_eq_true rfl, Nat.le_of_ble_eq_true rfl⟩ hne hlk hA hAe (fun o t h => Or.inr h) ?_ (fun p68 H locs hp68 hw => ?_)
    · exact fun p1 H1 locs1 hp hw => by obtain ⟨pq1, pq2, pq3, pq4, rfl, hq1, hq2⟩ := hp; exact ⟨_, ⟨pq1, pq2, pq3, pq4, rfl, hq1, hq2⟩, hw⟩
    obtain ⟨pf67, rfl, e70, e71, e72, e73, e74, e75, e76, e77, e78, e79⟩ := hp68
    have e70 : (pf67 11).toInt = (pf 11).toInt + 1 := e70
    have e71 : (pf67 11).toInt < (tf 6).toInt := e71
    have e72 : bp ta (pf 11) + sz ta (pf 11) ≤ bp ta (pf67 11) := e72
    have e73 : 1 ≤ sz ta (pf 11) := e73
    have e74 : (pf67 12).toInt = (pf 12).toInt + 1 := e74
    have e75 : (pf 12).toInt < 60 := e75
    have e76 : (pf67 13).toInt = (pf 13).toInt := e76
    have e77 : (pf67 24).toInt = (pf 24).toInt := e77
    have e78 : (pf67 25).toInt = (pf 25).toInt := e78
    have e79 : (pf67 26).toInt = (pf 26).toInt := e79
    have hw : pw D A s.heap H locs [wdP cs h r g tf ta pf67 na ma62 wa cf ca ef ea xf xa] := hw
    refine lv_aload_n S.x S.b d_Mpg_arrayValue_54 rfl (lv_at hl 0 rfl) ?_
    refine th_calli (ps0 := [wdP cs h r g tf ta pf na ma wa cf ca ef ea xf xa]) (pr := []) (pcs := [wdP cs h r g tf ta pf67 na ma62 wa cf ca ef ea xf xa]) (As := []) (rest := []) (c_mp_constant l D cs h r g tf ta cf ca ef ea xf xa pf67 na ma62 wa  lv (show 0 ≤ (pf67 11).toInt from by first | exact oz_ae613611c0 e70 g0 | omega) (show (pf67 11).toInt < (tf 6).toInt from by first | exact e71 | omega) (show (tf 6).toInt ≤ 2049 from by first | exact g2 | omega) (show 0 ≤ (pf67 12).toInt from by first | exact oz_ae613611c0 e74 g3 | omega) (show (pf67 12).toInt ≤ 60 from by first | exact oz_6710fd9021 e74 e75 | omega) (show 0 ≤ (pf67 13).toInt from by first | exact oz_f3ebed1ad0 e76 g5 | omega) (show (pf67 13).toInt ≤ (pf67 11).toInt + 10 from by first | exact oz_58f4248ce7 e70 e76 g6 | omega) (show 0 ≤ (pf67 26).toInt from by first | exact oz_f3ebed1ad0 e79 g7 | omega) (show (pf67 26).toInt ≤ (pf67 12).toInt from by first | exact oz_d87b110ba5 e74 e79 g8 | omega) (show 61 ≤ (pf67 12).toInt + (lv : Int) from by first | exact oz_8dace4bcab g9 e74 | omega) (show lv ≤ 61 from by first | exact g10 | omega) hlf htk (FsI.le (N' := (pf67 13).toInt) hfs (by first | with_reducible rfl | with_reducible assumption | omega))) S hT hw (oX_call (P := (fun A U H => (oN A U H) ∧ (oP A g U H))) (pr := []) (oG_and oG_N oG_P) hw hA ⟨hN, hP⟩) (px_recv hT hw 0 0 rfl rfl rfl) m12_10 m12_7 m12_9 ms_9_4 m1_21 q_Mpg_constant ⟨show (8 * lv + 21) + 1 ≤ (8 * lv + 22) from by first | with_reducible rfl | with_reducible assumption | omega, show 8 + (2 + 11) + (220 * lv + 720) ≤ (220 * lv + 1040) from by first | with_reducible rfl | with_reducible assumption | omega⟩ hl.1 rfl (Nat.le_of_ble_eq_true rfl) d_Mpg_arrayValue_55 ⟨Nat.le_of_ble_eq_true rfl, Nat.le_of_ble_eq_true rfl⟩ hne hlk hA hAe (fun o t h => Or.inr h) ?_ (fun v89 p88 H locs hp88 hw => ?_)
    · exact fun p1 H1 locs1 hp hw => by obtain ⟨pq1, pq2, pq3, pq4, rfl, hq1, hq2⟩ := hp; exact ⟨_, ⟨pq1, pq2, pq3, pq4, rfl, hq1, hq2⟩, hw⟩
    obtain ⟨pf84, na85, ma86, wa87, rfl, e90, e91, e92, e93, e94, e95, e96, e97, e98, e99, e100, e101, e102⟩ := hp88
    have e90 : (pf67 11).toInt + 1 ≤ (pf84 11).toInt := e90
    have e91 : (pf84 11).toInt < (tf 6).toInt := e91
    have e92 : (pf67 13).toInt + 1 ≤ (pf84 13).toInt := e92
    have e93 : (pf84 13).toInt - (pf67 13).toInt ≤ (pf84 11).toInt - (pf67 11).toInt := e93
    have e94 : bp ta (pf67 11) + 1 ≤ bp ta (pf84 11) := e94
    have e95 : (pf84 12).toInt = (pf67 12).toInt := e95
    have e96 : (pf84 24).toInt = (pf67 24).toInt := e96
    have e97 : (pf84 25).toInt = (pf67 25).toInt := e97
    have e98 : (pf84 26).toInt = (pf67 26).toInt := e98
    have e99 : FrB (pf67 13).toInt na ma62 na85 ma86 := e99
    have hf_19_p0 := (fb_m e99 (by first | with_reducible rfl | with_reducible assumption | omega) (by first | with_reducible rfl | with_reducible assumption | omega)).trans hf_19_p0
    have hf_22_p0 := (fb_m e99 (by first | with_reducible rfl | with_reducible assumption | omega) (by first | with_reducible rfl | with_reducible assumption | omega)).trans hf_22_p0
    have hfb := hfb.tr e99 (by first | with_reducible rfl | with_reducible assumption | omega)
    have e100 : FrW (pf67 26).toInt wa wa87 := e100
    have hfw := hfw.tr e100 (by first | with_reducible rfl | with_reducible assumption | omega)
    have e101 : ExR ta (tf 6).toInt na85 ma86 v89 (pf67 13).toInt (pf84 13).toInt (3 * (bp ta (pf84 11) - bp ta (pf67 11))) (pf67 12).toInt := e101
    have ht_v89 := e101
    have hn_ht_v89 := ht_v89.num
    have e102 : FsI (tf 6).toInt (pf84 13).toInt na85 := e102
    have hfs := e102
    have hw : pw D A s.heap H locs [wdP cs h r g tf ta pf84 na85 ma86 wa87 cf ca ef ea xf xa] := hw
    have lv89 := Int32.le_toInt v89
    have uv89 := Int32.toInt_lt v89
    refine lv_istore_n (lv' := [(2, .int v89), (0, .ref h), (1, .int p0)]) S.x S.b d_Mpg_arrayValue_58 rfl hl (by decide) rfl (fun ls hl => ?_)
    refine lv_aload_n S.x S.b d_Mpg_arrayValue_59 rfl (lv_at hl 1 rfl) ?_
    refine px_get S k_Mpg hT hw 0 0 18 (v := .ref (r 18)) rfl rfl rfl (by decide) m10_3 d_Mpg_arrayValue_60 ?_
    refine lv_iload_n S.x S.b d_Mpg_arrayValue_63 rfl (lv_at hl 2 rfl) ?_
    refine lv_iload_n S.x S.b d_Mpg_arrayValue_64 rfl (lv_at hl 0 rfl) ?_
    refine px_iast S hT hw 0 14 (n := 2100) (f := (ma86 18)) (x := p0) (y := v89) rfl gp_18 (vp_in_iff.mpr (by constructor <;> omega)) d_Mpg_arrayValue_65 (w' := wdP cs h r g tf ta pf84 na85 (va_up ma86 18 (upd (ma86 18) p0.toNatClampNeg v89)) wa87 cf ca ef ea xf xa) (ps' := [wdP cs h r g tf ta pf84 na85 (va_up ma86 18 (upd (ma86 18) p0.toNatClampNeg v89)) wa87 cf ca ef ea xf xa]) sp_18 rfl (fun H locs hw => ?_)
    obtain ⟨ma103, hu_ma103⟩ : ∃ y : Nat → Nat → Int32, y = va_up ma86 18 (upd (ma86 18) p0.toNatClampNeg v89) := ⟨_, rfl⟩
    have hw : pw D A s.heap _ _ [wdP cs h r g tf ta pf84 na85 ma103 wa87 cf ca ef ea xf xa] := (by rw [hu_ma103]; exact hw)
    obtain ⟨ht_v89, hdq_v89⟩ := ht_v89.ag (ag_m hu_ma103 (by first | with_reducible rfl | with_reducible assumption | omega) (by first | with_reducible rfl | with_reducible assumption | omega)) (by first | with_reducible rfl | with_reducible assumption | omega)
    have hn_ht_v89 := ht_v89.num
    have hf_19_p0 := (fl_n hu_ma103 (by decide)).trans hf_19_p0
    have hf_22_p0 := (fl_n hu_ma103 (by decide)).trans hf_22_p0
    have hf_18_p0 : ma103 18 p0.toNatClampNeg = v89 := (by rw [hu_ma103, va_up_s, pk_us])
    have hfb := FrV.us hfb (by decide) hu_ma103
    exact J66 (((tf 6).toInt - (pf84 11).toInt).toNat + 1) pf84 na85 ma103 wa87 v89 _ _ ls (show (pf84 24).toInt = (pf 24).toInt from by first | exact oz_1687f4cc65 e77 e96 | omega) (show (pf84 25).toInt = (pf 25).toInt from by first | exact oz_1687f4cc65 e78 e97 | omega) (show (pf84 26).toInt = (pf 26).toInt from by first | exact oz_1687f4cc65 e79 e98 | omega) (show (pf84 12).toInt = (pf 12).toInt + 1 from by first | exact oz_d71c8747a8 e74 e95 | omega) (show (pf84 12).toInt ≤ 60 from by first | exact oz_1a76b13bbc e95 e74 e75 | omega) (show (pf 11).toInt + 2 ≤ (pf84 11).toInt from by first | exact oz_ec7811a741 e70 e90 | omega) (show (pf84 11).toInt < (tf 6).toInt from by first | exact e91 | omega) (show (pf 13).toInt + 1 ≤ (pf84 13).toInt from by first | exact oz_4495b4e10b e76 e92 | omega) (show (pf84 13).toInt - (pf 13).toInt ≤ (pf84 11).toInt - (pf 11).toInt from by first | exact oz_44664987d4 e70 e76 e93 | omega) (show bp ta (pf 11) + 2 ≤ bp ta (pf84 11) from by first | with_reducible rfl | with_reducible assumption | omega) (show FrV (pf 13).toInt p0 na ma na85 ma103 from hfb) (show FrW (pf 26).toInt wa wa87 from hfw) (show FlN ma103 19 p0 (pf 11) from hf_19_p0) (show FlN ma103 22 p0 2 from hf_22_p0) (show RfC ta (tf 6).toInt na85 ma103 (ma103 18) p0 v89 (pf 13).toInt (pf84 13).toInt (3 * (bp ta (pf84 11) - bp ta (pf 11))) 130 from ⟨_, hf_18_p0, (RwV.le (row_0 (vl_c (exr_vl ht_v89 (by first | with_reducible rfl | with_reducible assumption | omega))) fc_ok) (by first | with_reducible rfl | with_reducible assumption | omega) (by first | with_reducible rfl | with_reducible assumption | omega) (by first | with_reducible rfl | with_reducible assumption | omega) (by first | with_reducible rfl | with_reducible assumption | omega))⟩) (show FsI (tf 6).toInt (pf84 13).toInt na85 from (FsI.le hfs (by first | with_reducible rfl | with_reducible assumption | omega))) (show (tf 6).toInt - (pf84 11).toInt < (((((tf 6).toInt - (pf84 11).toInt).toNat + 1 : Nat) : Int) : Int) from by first | exact oz_natlt | omega) hw (lv_sub hl [1, 2, 0] rfl)
  · have nc61 : z60.toInt = (4 : Int) := (i_eq (x := z60) (y := 4)).mp c61
    refine lv_aload_n S.x S.b d_Mpg_arrayValue_23 rfl (lv_at hl 0 rfl) ?_
    refine px_get S k_Mpg hT hw 0 0 22 (v := .ref (r 22)) rfl rfl rfl (by decide) m10_9 d_Mpg_arrayValue_24 ?_
    refine lv_iload_n S.x S.b d_Mpg_arrayValue_27 rfl (lv_at hl 1 rfl) ?_
    refine lv_iconst (v := 3) S.x S.b d_Mpg_arrayValue_28 (by decide) ?_
    refine px_iast S hT hw 0 18 (n := 2100) (f := (ma59 22)) (x := p0) (y := 3) rfl gp_22 (vp_in_iff.mpr (by constructor <;> omega)) d_Mpg_arrayValue_29 (w' := wdP cs h r g tf ta pf na (va_up ma59 22 (upd (ma59 22) p0.toNatClampNeg 3)) wa cf ca ef ea xf xa) (ps' := [wdP cs h r g tf ta pf na (va_up ma59 22 (upd (ma59 22) p0.toNatClampNeg 3)) wa cf ca ef ea xf xa]) sp_22 rfl (fun H locs hw => ?_)
    obtain ⟨ma104, hu_ma104⟩ : ∃ y : Nat → Nat → Int32, y = va_up ma59 22 (upd (ma59 22) p0.toNatClampNeg 3) := ⟨_, rfl⟩
    have hw : pw D A s.heap _ _ [wdP cs h r g tf ta pf na ma104 wa cf ca ef ea xf xa] := (by rw [hu_ma104]; exact hw)
    have hf_19_p0 := (fl_n hu_ma104 (by decide)).trans hf_19_p0
    have hf_22_p0 : ma104 22 p0.toNatClampNeg = (3 : Int32) := (by rw [hu_ma104, va_up_s, pk_us])
    have hfb := FrV.us hfb (by decide) hu_ma104
    refine lv_aload_n S.x S.b d_Mpg_arrayValue_30 rfl (lv_at hl 0 rfl) ?_
    refine lv_dup S.x S.b d_Mpg_arrayValue_31 rfl ?_
    refine px_get S k_Mpg hT hw 0 0 11 (v := .int (pf 11)) rfl rfl rfl (by decide) m9_235 d_Mpg_arrayValue_32 ?_
    refine lv_iconst (v := 1) S.x S.b d_Mpg_arrayValue_35 (by decide) ?_
    refine lv_iadd S.x S.b d_Mpg_arrayValue_36 ?_
    have lr105 := Int32.le_toInt (pf 11)
    have ur105 := Int32.toInt_lt (pf 11)
    refine lv_topi (fun z106 ez106 => ?_)
    have tz106 : z106.toInt = ((pf 11).toInt + (1 : Int) + 2147483648) % 4294967296 - 2147483648 := by rw [ez106]; exact i_add (pf 11) 1
    have lz106 := Int32.le_toInt z106
    have uz106 := Int32.toInt_lt z106
    try replace tz106 : z106.toInt = (pf 11).toInt + (1 : Int) := by omega
    have hnx36 := tk_n htk (x := (pf 11)) (y := z106) (by first | with_reducible rfl | with_reducible assumption | omega) (by first | with_reducible rfl | with_reducible assumption | omega) (by first | with_reducible rfl | with_reducible assumption | omega)
    refine px_put S k_Mpg hT hw 0 0 11 rfl rfl (by decide) m9_235 rfl rfl rfl (Nat.le_of_ble_eq_true rfl) d_Mpg_arrayValue_37 (w' := wdP cs h r g tf ta (upd pf 11 z106) na ma104 wa cf ca ef ea xf xa) (ps' := [wdP cs h r g tf ta (upd pf 11 z106) na ma104 wa cf ca ef ea xf xa]) rfl rfl (fun H locs hw => ?_)
    exact th_vret S hr hlk hAe hw (⟨(upd pf 11 z106), na, ma104, wa, rfl, (show (pf 11).toInt + 1 ≤ z106.toInt from by first | exact oz_38236be559 tz106 | omega), (show z106.toInt < (tf 6).toInt from by first | with_reducible rfl | with_reducible assumption | omega), (show (pf 13).toInt ≤ (pf 13).toInt from by first | exact oz_1cb5f934a5 | omega), (show (pf 13).toInt - (pf 13).toInt ≤ z106.toInt - (pf 11).toInt from by first | exact oz_a8abe01589 tz106 | omega), (show bp ta (pf 11) + 1 ≤ bp ta z106 from by first | with_reducible rfl | with_reducible assumption | omega), (show (pf 12).toInt = (pf 12).toInt from rfl), (show (pf 24).toInt = (pf 24).toInt from rfl), (show (pf 25).toInt = (pf 25).toInt from rfl), (show (pf 26).toInt = (pf 26).toInt from rfl), (show FrV (pf 13).toInt p0 na ma na ma104 from hfb), (show FrW (pf 26).toInt wa wa from hfw), (show AvV ta (tf 6).toInt na ma104 p0 (pf 11) (pf 13).toInt (pf 13).toInt (3 * (bp ta z106 - bp ta (pf 11))) 130 from ⟨hf_19_p0, ⟨by first | with_reducible rfl | with_reducible assumption | omega, by first | with_reducible rfl | with_reducible assumption | omega⟩, Or.inl ⟨hf_22_p0, by first | with_reducible rfl | with_reducible assumption | omega, by first | with_reducible rfl | with_reducible assumption | omega, by first | with_reducible rfl | with_reducible assumption | omega⟩⟩), (show FsI (tf 6).toInt (pf 13).toInt na from (FsI.le hfs (by first | with_reducible rfl | with_reducible assumption | omega)))⟩) d_Mpg_arrayValue_40
abbrev b_Mpg_variable : ByteArray := prog_16_method_44_code
def y_Mpg_variable : MethodName := ⟨"HomeSystemModel$Program", "variable", "()I"⟩
theorem d_Mpg_variable_0 : decode b_Mpg_variable 0 = .ok (.aload_n 0, 1) := by decide +kernel
theorem d_Mpg_variable_1 : decode b_Mpg_variable 1 = .ok (.bipush 40, 2) := by decide +kernel
theorem d_Mpg_variable_3 : decode b_Mpg_variable 3 = .ok (.aload_n 0, 1) := by decide +kernel
theorem d_Mpg_variable_4 : decode b_Mpg_variable 4 = .ok (.invokevirtual 442, 3) := by decide +kernel
theorem d_Mpg_variable_7 : decode b_Mpg_variable 7 = .ok (.invokevirtual 406, 3) := by decide +kernel
theorem d_Mpg_variable_10 : decode b_Mpg_variable 10 = .ok (.istore_n 1, 1) := by decide +kernel
theorem d_Mpg_variable_11 : decode b_Mpg_variable 11 = .ok (.aload_n 0, 1) := by decide +kernel
theorem d_Mpg_variable_12 : decode b_Mpg_variable 12 = .ok (.getfield 231, 3) := by decide +kernel
theorem d_Mpg_variable_15 : decode b_Mpg_variable 15 = .ok (.iload_n 1, 1) := by decide +kernel
theorem d_Mpg_variable_16 : decode b_Mpg_variable 16 = .ok (.iconst 0, 1) := by decide +kernel
theorem d_Mpg_variable_17 : decode b_Mpg_variable 17 = .ok (.iastore, 1) := by decide +kernel
theorem d_Mpg_variable_18 : decode b_Mpg_variable 18 = .ok (.aload_n 0, 1) := by decide +kernel
theorem d_Mpg_variable_19 : decode b_Mpg_variable 19 = .ok (.ldc 95, 2) := by decide +kernel
theorem d_Mpg_variable_21 : decode b_Mpg_variable 21 = .ok (.invokevirtual 366, 3) := by decide +kernel
theorem d_Mpg_variable_24 : decode b_Mpg_variable 24 = .ok (.ifCond .eq 40, 3) := by decide +kernel
theorem d_Mpg_variable_27 : decode b_Mpg_variable 27 = .ok (.aload_n 0, 1) := by decide +kernel
theorem d_Mpg_variable_28 : decode b_Mpg_variable 28 = .ok (.invokevirtual 383, 3) := by decide +kernel
theorem d_Mpg_variable_31 : decode b_Mpg_variable 31 = .ok (.aload_n 0, 1) := by decide +kernel
theorem d_Mpg_variable_32 : decode b_Mpg_variable 32 = .ok (.getfield 216, 3) := by decide +kernel
theorem d_Mpg_variable_35 : decode b_Mpg_variable 35 = .ok (.iload_n 1, 1) := by decide +kernel
theorem d_Mpg_variable_36 : decode b_Mpg_variable 36 = .ok (.aload_n 0, 1) := by decide +kernel
theorem d_Mpg_variable_37 : decode b_Mpg_variable 37 = .ok (.invokevirtual 451, 3) := by decide +kernel
theorem d_Mpg_variable_40 : decode b_Mpg_variable 40 = .ok (.iastore, 1) := by decide +kernel
theorem d_Mpg_variable_41 : decode b_Mpg_variable 41 = .ok (.aload_n 0, 1) := by decide +kernel
theorem d_Mpg_variable_42 : decode b_Mpg_variable 42 = .ok (.ldc 97, 2) := by decide +kernel
theorem d_Mpg_variable_44 : decode b_Mpg_variable 44 = .ok (.invokevirtual 439, 3) := by decide +kernel
theorem d_Mpg_variable_47 : decode b_Mpg_variable 47 = .ok (.aload_n 0, 1) := by decide +kernel
theorem d_Mpg_variable_48 : decode b_Mpg_variable 48 = .ok (.ldc 107, 2) := by decide +kernel
theorem d_Mpg_variable_50 : decode b_Mpg_variable 50 = .ok (.invokevirtual 370, 3) := by decide +kernel
theorem d_Mpg_variable_53 : decode b_Mpg_variable 53 = .ok (.ifCond .eq 37, 3) := by decide +kernel
theorem d_Mpg_variable_56 : decode b_Mpg_variable 56 = .ok (.aload_n 0, 1) := by decide +kernel
theorem d_Mpg_variable_57 : decode b_Mpg_variable 57 = .ok (.iload_n 1, 1) := by decide +kernel
theorem d_Mpg_variable_58 : decode b_Mpg_variable 58 = .ok (.invokevirtual 454, 3) := by decide +kernel
theorem d_Mpg_variable_61 : decode b_Mpg_variable 61 = .ok (.goto 29, 3) := by decide +kernel
theorem d_Mpg_variable_64 : decode b_Mpg_variable 64 = .ok (.aload_n 0, 1) := by decide +kernel
theorem d_Mpg_variable_65 : decode b_Mpg_variable 65 = .ok (.ldc 107, 2) := by decide +kernel
theorem d_Mpg_variable_67 : decode b_Mpg_variable 67 = .ok (.invokevirtual 370, 3) := by decide +kernel
theorem d_Mpg_variable_70 : decode b_Mpg_variable 70 = .ok (.ifCond .eq 20, 3) := by decide +kernel
theorem d_Mpg_variable_73 : decode b_Mpg_variable 73 = .ok (.aload_n 0, 1) := by decide +kernel
theorem d_Mpg_variable_74 : decode b_Mpg_variable 74 = .ok (.getfield 231, 3) := by decide +kernel
theorem d_Mpg_variable_77 : decode b_Mpg_variable 77 = .ok (.iload_n 1, 1) := by decide +kernel
theorem d_Mpg_variable_78 : decode b_Mpg_variable 78 = .ok (.iconst 1, 1) := by decide +kernel
theorem d_Mpg_variable_79 : decode b_Mpg_variable 79 = .ok (.iastore, 1) := by decide +kernel
theorem d_Mpg_variable_80 : decode b_Mpg_variable 80 = .ok (.aload_n 0, 1) := by decide +kernel
theorem d_Mpg_variable_81 : decode b_Mpg_variable 81 = .ok (.getfield 219, 3) := by decide +kernel
theorem d_Mpg_variable_84 : decode b_Mpg_variable 84 = .ok (.iload_n 1, 1) := by decide +kernel
theorem d_Mpg_variable_85 : decode b_Mpg_variable 85 = .ok (.aload_n 0, 1) := by decide +kernel
theorem d_Mpg_variable_86 : decode b_Mpg_variable 86 = .ok (.invokevirtual 403, 3) := by decide +kernel
theorem d_Mpg_variable_89 : decode b_Mpg_variable 89 = .ok (.iastore, 1) := by decide +kernel
theorem d_Mpg_variable_90 : decode b_Mpg_variable 90 = .ok (.iload_n 1, 1) := by decide +kernel
theorem d_Mpg_variable_91 : decode b_Mpg_variable 91 = .ok (.ireturn, 1) := by decide +kernel
theorem q_Mpg_variable : px_y y_Mpg_variable 0 := by unfold px_y; decide +kernel
set_option maxHeartbeats 4000000 in
set_option maxRecDepth 100000 in
theorem c_mp_variable (l : Launch) (D : va_G) (cs : Nat → ClassId) (h : Nat) (r : Nat → Nat) (g : Nat → Nat → Option Nat) (tf : Nat → Int32) (ta : Nat → Nat → Int32) (cf : Nat → Int32) (ca : Nat → Nat → Int32) (ef : Nat → Int32) (ea : Nat → Nat → Int32) (xf : Nat → Int32) (xa : Nat → Nat → Int32) (pf : Nat → Int32) (na : Nat → Nat → Int32) (ma : Nat → Nat → Int32) (wa : Nat → Nat → Int32) (lv : Nat) (g0 : 0 ≤ (pf 11).toInt) (g1 : (pf 11).toInt < (tf 6).toInt) (g2 : (tf 6).toInt ≤ 2049) (g3 : 0 ≤ (pf 12).toInt) (g4 : (pf 12).toInt ≤ 60) (g5 : 0 ≤ (pf 13).toInt) (g6 : (pf 13).toInt ≤ (pf 11).toInt + 10) (g7 : 0 ≤ (pf 26).toInt) (g8 : (pf 26).toInt ≤ (pf 12).toInt) (g9 : 61 ≤ (pf 12).toInt + (lv : Int)) (g10 : lv ≤ 61) (hlf : l.flags = pinnedFlags ++ [noTraceFlag]) (htk : TkI tf ta) (hfs : FsI (tf 6).toInt (pf 13).toInt na) : ThI l y_Mpg_variable b_Mpg_variable 2 (.int) D cs (8 * lv + 23) (220 * lv + 1080) [.ref h] [wdP cs h r g tf ta pf na ma wa cf ca ef ea xf xa] (oX (fun A U H => (oN A U H) ∧ (oP A g U H)) [wdP cs h r g tf ta pf na ma wa cf ca ef ea xf xa]) "java/lang/IllegalArgumentException" (fun v ps => ∃ (pf' : Nat → Int32) (na' : Nat → Nat → Int32) (ma' : Nat → Nat → Int32) (wa' : Nat → Nat → Int32), (ps = [wdP cs h r g tf ta pf' na' ma' wa' cf ca ef ea xf xa]) ∧ ((pf 11).toInt + 1 ≤ (pf' 11).toInt) ∧ ((pf' 11).toInt < (tf 6).toInt) ∧ ((pf 13).toInt + 1 ≤ (pf' 13).toInt) ∧ ((pf' 13).toInt - (pf 13).toInt ≤ (pf' 11).toInt - (pf 11).toInt) ∧ (bp ta (pf 11) + 1 ≤ bp ta (pf' 11)) ∧ ((pf' 12).toInt = (pf 12).toInt) ∧ ((pf' 24).toInt = (pf 24).toInt) ∧ ((pf' 25).toInt = (pf 25).toInt) ∧ ((pf' 26).toInt = (pf 26).toInt) ∧ (FrB (pf 13).toInt na ma na' ma') ∧ (FrW (pf 26).toInt wa wa') ∧ (VlR ta (tf 6).toInt na' ma' v (pf 13).toInt (pf' 13).toInt (3 * (bp ta (pf' 11) - bp ta (pf 11)) + 3) 130) ∧ (FsI (tf 6).toInt (pf' 13).toInt na')) (fun ps => ∃ (pf' : Nat → Int32) (na' : Nat → Nat → Int32) (ma' : Nat → Nat → Int32) (wa' : Nat → Nat → Int32), ps = [wdP cs h r g tf ta pf' na' ma' wa' cf ca ef ea xf xa] ∧ 0 ≤ (pf' 11).toInt ∧ (pf' 11).toInt + 1 ≤ (tf 6).toInt) := by
  refine th_enter (by decide) (Nat.le_of_ble_eq_true rfl) ?_
  intro p e s m below meth c A ls hAe S hr hlk hnm hA hT hX hw hl hne hadm
  have hl : lv_has ls 2 [(0, .ref h)] := hl
  have cst0 : (0 : Int32).toInt = 0 := rfl
  have cst1 : (1 : Int32).toInt = 1 := rfl
  have cst40 : (40 : Int32).toInt = 40 := rfl
  have hX : (fun A U H => (oN A U H) ∧ (oP A g U H)) A s s.heap := by rw [hAe]; exact hX
  obtain ⟨hN, hP⟩ := hX
  have hZ := hP.1
  have hF0 := hP.2.1
  have hfb : FrB (pf 13).toInt na ma na ma := FrB.rf
  have hfw : FrW (pf 26).toInt wa wa := FrW.rf
  refine lv_aload_n S.x S.b d_Mpg_variable_0 rfl (lv_at hl 0 rfl) ?_
  refine lv_bipush (v := 40) S.x S.b d_Mpg_variable_1 (by decide) ?_
  refine lv_aload_n S.x S.b d_Mpg_variable_3 rfl (lv_at hl 0 rfl) ?_
  refine th_calli (ps0 := [wdP cs h r g tf ta pf na ma wa cf ca ef ea xf xa]) (pr := []) (pcs := [wdP cs h r g tf ta pf na ma wa cf ca ef ea xf xa]) (As := []) (rest := [.int 40, .ref h]) (c_mp_name l D cs h r g tf ta na ma wa cf ca ef ea xf xa pf   (show 0 ≤ (pf 11).toInt from by first | exact g0 | omega) (show (pf 11).toInt < (tf 6).toInt from by first | exact g1 | omega) (show (tf 6).toInt ≤ 2049 from by first | exact g2 | omega) hlf htk) S hT hw (oX_call (P := (fun A U H => (oN A U H) ∧ (oP A g U H))) (pr := []) (oG_and oG_N oG_P) hw hA ⟨hN, hP⟩) (px_recv hT hw 0 0 rfl rfl rfl) m12_2 m11_239 m12_1 ms_9_2 m1_21 q_Mpg_name ⟨show 7 + 1 ≤ (8 * lv + 23) from by first | with_reducible rfl | with_reducible assumption | omega, show 8 + (1 + 11) + 150 ≤ (220 * lv + 1080) from by first | with_reducible rfl | with_reducible assumption | omega⟩ hl.1 rfl (Nat.le_of_ble_eq_true rfl) d_Mpg_variable_4 ⟨Nat.le_of_ble_eq_true rfl, Nat.le_of_ble_eq_true rfl⟩ hne hlk hA hAe (fun o t h => Or.inr h) ?_ (fun v4 p3 H locs hp3 hw => ?_)
  · exact fun p1 H1 locs1 hp hw => by obtain ⟨pq1, pq2, pq3, pq4, rfl, hq1, hq2⟩ := hp; exact ⟨_, ⟨pq1, pq2, pq3, pq4, rfl, hq1, hq2⟩, hw⟩
  obtain ⟨pf2, rfl, e5, e6, e7, e8, e9, e10, e11, e12, e13, e14⟩ := hp3
  have e5 : v4.toInt = (pf 11).toInt := e5
  have e6 : SoIs ta v4 1 := e6
  have e7 : (pf2 11).toInt = (pf 11).toInt + 1 := e7
  have e8 : (pf2 11).toInt < (tf 6).toInt := e8
  have e9 : bp ta (pf 11) + 1 ≤ bp ta (pf2 11) := e9
  have e10 : (pf2 12).toInt = (pf 12).toInt := e10
  have e11 : (pf2 13).toInt = (pf 13).toInt := e11
  have e12 : (pf2 24).toInt = (pf 24).toInt := e12
  have e13 : (pf2 25).toInt = (pf 25).toInt := e13
  have e14 : (pf2 26).toInt = (pf 26).toInt := e14
  have hw : pw D A s.heap H locs [wdP cs h r g tf ta pf2 na ma wa cf ca ef ea xf xa] := hw
  have lv4 := Int32.le_toInt v4
  have uv4 := Int32.toInt_lt v4
  refine px_calli (pr := []) (px_runV (As := [.int 40, .int v4]) (rest := []) S (c_mp_make l D cs h r g tf ta wa cf ca ef ea xf xa pf2 na ma 40 v4  (show 0 ≤ (pf2 13).toInt from by first | exact oz_f3ebed1ad0 e11 g5 | omega) (show (pf2 13).toInt < 2100 from by first | exact oz_80360dfd4e e11 g6 e7 g2 e8 | omega) _) hT (pr := []) (pcs := [wdP cs h r g tf ta pf2 na ma wa cf ca ef ea xf xa]) hw px_X.tt (px_recv hT hw 0 0 rfl rfl rfl) m11_209 m11_206 m11_208 ms_8_12 m1_21 q_Mpg_make ⟨show 0 + 1 ≤ (8 * lv + 23) from by first | with_reducible rfl | with_reducible assumption | omega, show 8 + (3 + 11) + 0 ≤ (220 * lv + 1080) from by first | with_reducible rfl | with_reducible assumption | omega⟩ hl.1 rfl (Nat.le_of_ble_eq_true rfl) d_Mpg_variable_7 ⟨Nat.le_of_ble_eq_true rfl, Nat.le_of_ble_eq_true rfl⟩) hw hA (fun v22 p21 H locs hp21 hw => ?_)
  obtain ⟨pf18, na19, ma20, rfl, e23, e24, e25, e26, e27, e28, e29, e30⟩ := hp21
  have e23 : v22.toInt = (pf2 13).toInt := e23
  have e24 : (pf18 13).toInt = (pf2 13).toInt + 1 := e24
  have e25 : (pf18 11).toInt = (pf2 11).toInt := e25
  have e26 : (pf18 12).toInt = (pf2 12).toInt := e26
  have e27 : (pf18 24).toInt = (pf2 24).toInt := e27
  have e28 : (pf18 25).toInt = (pf2 25).toInt := e28
  have e29 : (pf18 26).toInt = (pf2 26).toInt := e29
  have e30 : MkN na ma na19 ma20 v22 (40 : Int32) v4 := e30
  obtain ⟨qb311, qb312, qb313, qb314⟩ := tk_eq (ta := ta) (x := (pf18 11)) (y := (pf2 11)) (by first | with_reducible rfl | with_reducible assumption | omega)
  have hmk_v22 := e30
  have hfm_v22 := MkN.frb (b := v22.toInt) hmk_v22 (by first | with_reducible rfl | with_reducible assumption | omega) (by first | with_reducible rfl | with_reducible assumption | omega)
  have hfs := FsI.mk hfs hmk_v22 (by first | with_reducible rfl | with_reducible assumption | omega) (by first | with_reducible rfl | with_reducible assumption | omega) (by first | with_reducible rfl | with_reducible assumption | omega) (by first | with_reducible rfl | with_reducible assumption | omega)
  have hfb := hfb.tr hfm_v22 (by first | with_reducible rfl | with_reducible assumption | omega)
  have hf_14_v22 := hmk_v22.2.1 (by decide) (by decide)
  have hf_15_v22 := hmk_v22.2.2.1
  have hf_17_v22 := hmk_v22.2.2.2.2.1
  have hf_21_v22 := hmk_v22.2.2.2.2.2.2.2.2.1
  clear hmk_v22 hfm_v22
  have hw : pw D A s.heap H locs [wdP cs h r g tf ta pf18 na19 ma20 wa cf ca ef ea xf xa] := hw
  have lv22 := Int32.le_toInt v22
  have uv22 := Int32.toInt_lt v22
  refine lv_istore_n (lv' := [(1, .int v22), (0, .ref h)]) S.x S.b d_Mpg_variable_10 rfl hl (by decide) rfl (fun ls hl => ?_)
  refine lv_aload_n S.x S.b d_Mpg_variable_11 rfl (lv_at hl 1 rfl) ?_
  refine px_get S k_Mpg hT hw 0 0 22 (v := .ref (r 22)) rfl rfl rfl (by decide) m10_9 d_Mpg_variable_12 ?_
  refine lv_iload_n S.x S.b d_Mpg_variable_15 rfl (lv_at hl 0 rfl) ?_
  refine lv_iconst (v := 0) S.x S.b d_Mpg_variable_16 (by decide) ?_
  refine px_iast S hT hw 0 18 (n := 2100) (f := (ma20 22)) (x := v22) (y := 0) rfl gp_22 (vp_in_iff.mpr (by constructor <;> omega)) d_Mpg_variable_17 (w' := wdP cs h r g tf ta pf18 na19 (va_up ma20 22 (upd (ma20 22) v22.toNatClampNeg 0)) wa cf ca ef ea xf xa) (ps' := [wdP cs h r g tf ta pf18 na19 (va_up ma20 22 (upd (ma20 22) v22.toNatClampNeg 0)) wa cf ca ef ea xf xa]) sp_22 rfl (fun H locs hw => ?_)
  obtain ⟨ma32, hu_ma32⟩ : ∃ y : Nat → Nat → Int32, y = va_up ma20 22 (upd (ma20 22) v22.toNatClampNeg 0) := ⟨_, rfl⟩
  have hw : pw D A s.heap _ _ [wdP cs h r g tf ta pf18 na19 ma32 wa cf ca ef ea xf xa] := (by rw [hu_ma32]; exact hw)
  have hf_22_v22 : ma32 22 v22.toNatClampNeg = (0 : Int32) := (by rw [hu_ma32, va_up_s, pk_us])
  have hfb : FrB (pf 13).toInt na ma na19 ma32 := (by rw [hu_ma32]; exact FrB.um hfb (by first | with_reducible rfl | with_reducible assumption | omega) (by first | with_reducible rfl | with_reducible assumption | omega))
  refine lv_aload_n S.x S.b d_Mpg_variable_18 rfl (lv_at hl 1 rfl) ?_
  obtain ⟨sk33, hRsk33, st34, sb35, hSsk33⟩ := oP_lit hP (k := 95) (tx := "[") (n := 1) (List.mem_of_getElem? (i := 39) rfl)
  refine va_ldcS S.x S.b S.own hRsk33 d_Mpg_variable_19 ?_
  refine px_calli (pr := []) (px_runV (As := [.ref sk33]) (rest := []) S (c_mp_is l D cs sk33 1 h r g tf ta pf18 na19 ma32 wa cf ca ef ea xf xa   (show 0 ≤ (pf18 11).toInt from by first | exact oz_78ad3463af e25 e7 g0 | omega) (show (pf18 11).toInt < (tf 6).toInt from by first | exact oz_5d2fbac15b e8 e25 | omega) (show (tf 6).toInt ≤ 2049 from by first | exact g2 | omega) (show 1 ≤ 100 from by first | decide | omega) htk _) hT (pr := []) (pcs := [wdP cs h r g tf ta pf18 na19 ma32 wa cf ca ef ea xf xa]) hw (oX_call (P := (fun A U H => (oP A g U H) ∧ (StS A sk33 1 U H))) (pr := []) (oG_and oG_P oG_Q) hw hA ⟨hP, ⟨_, _, hSsk33⟩⟩) (px_recv hT hw 0 0 rfl rfl rfl) m11_217 m11_214 m11_216 ms_8_14 m1_21 q_Mpg_is ⟨show 3 + 1 ≤ (8 * lv + 23) from by first | with_reducible rfl | with_reducible assumption | omega, show 8 + (2 + 11) + 120 ≤ (220 * lv + 1080) from by first | with_reducible rfl | with_reducible assumption | omega⟩ hl.1 rfl (Nat.le_of_ble_eq_true rfl) d_Mpg_variable_21 ⟨Nat.le_of_ble_eq_true rfl, Nat.le_of_ble_eq_true rfl⟩) hw hA (fun v37 p36 H locs hp36 hw => ?_)
  obtain ⟨rfl, e38, e39⟩ := hp36
  have e38 := z_rng e38
  have e39 : v37.toInt = 1 → (pf18 11).toInt + 1 < (tf 6).toInt ∧ so ta (pf18 11) = 5 := e39
  have hw : pw D A s.heap H locs [wdP cs h r g tf ta pf18 na19 ma32 wa cf ca ef ea xf xa] := hw
  have lv37 := Int32.le_toInt v37
  have uv37 := Int32.toInt_lt v37
  refine lv_if_eq (tgt := 64) S.x S.b d_Mpg_variable_24 (by decide) (fun c40 => ?_) (fun c40 => ?_)
  · have nc40 : v37.toInt = (0 : Int) := (i_eq (x := v37) (y := 0)).mp c40
    refine lv_aload_n S.x S.b d_Mpg_variable_64 rfl (lv_at hl 1 rfl) ?_
    obtain ⟨sk41, hRsk41, st42, sb43, hSsk41⟩ := oP_lit hP (k := 107) (tx := "=") (n := 1) (List.mem_of_getElem? (i := 45) rfl)
    refine va_ldcS S.x S.b S.own hRsk41 d_Mpg_variable_65 ?_
    refine px_calli (pr := []) (px_runV (As := [.ref sk41]) (rest := []) S (c_mp_takes l D cs sk41 1 h r g tf ta na19 ma32 wa cf ca ef ea xf xa pf18   (show 0 ≤ (pf18 11).toInt from by first | exact oz_78ad3463af e25 e7 g0 | omega) (show (pf18 11).toInt < (tf 6).toInt from by first | exact oz_5d2fbac15b e8 e25 | omega) (show (tf 6).toInt ≤ 2049 from by first | exact g2 | omega) (show 1 ≤ 100 from by first | decide | omega) htk _) hT (pr := []) (pcs := [wdP cs h r g tf ta pf18 na19 ma32 wa cf ca ef ea xf xa]) hw (oX_call (P := (fun A U H => (oP A g U H) ∧ (StS A sk41 1 U H))) (pr := []) (oG_and oG_P oG_Q) hw hA ⟨hP, ⟨_, _, hSsk41⟩⟩) (px_recv hT hw 0 0 rfl rfl rfl) m12_6 m12_3 m12_5 ms_9_3 m1_21 q_Mpg_takes ⟨show 4 + 1 ≤ (8 * lv + 23) from by first | with_reducible rfl | with_reducible assumption | omega, show 8 + (3 + 11) + 160 ≤ (220 * lv + 1080) from by first | with_reducible rfl | with_reducible assumption | omega⟩ hl.1 rfl (Nat.le_of_ble_eq_true rfl) d_Mpg_variable_67 ⟨Nat.le_of_ble_eq_true rfl, Nat.le_of_ble_eq_true rfl⟩) hw hA (fun v47 p46 H locs hp46 hw => ?_)
    obtain ⟨pf45, rfl, e48, e49, e50, e51, e52, e53, e54, e55, e56⟩ := hp46
    have e48 := z_rng e48
    have e49 : (pf45 11).toInt = (pf18 11).toInt + v47.toInt := e49
    have e50 : (pf45 11).toInt < (tf 6).toInt := e50
    have e51 : bp ta (pf18 11) + v47.toInt ≤ bp ta (pf45 11) := e51
    have e52 : (pf45 12).toInt = (pf18 12).toInt := e52
    have e53 : (pf45 13).toInt = (pf18 13).toInt := e53
    have e54 : (pf45 24).toInt = (pf18 24).toInt := e54
    have e55 : (pf45 25).toInt = (pf18 25).toInt := e55
    have e56 : (pf45 26).toInt = (pf18 26).toInt := e56
    have hw : pw D A s.heap H locs [wdP cs h r g tf ta pf45 na19 ma32 wa cf ca ef ea xf xa] := hw
    have lv47 := Int32.le_toInt v47
    have uv47 := Int32.toInt_lt v47
    refine lv_if_eq (tgt := 90) S.x S.b d_Mpg_variable_70 (by decide) (fun c57 => ?_) (fun c57 => ?_)
    · have nc57 : v47.toInt = (0 : Int) := (i_eq (x := v47) (y := 0)).mp c57
      refine lv_iload_n S.x S.b d_Mpg_variable_90 rfl (lv_at hl 0 rfl) ?_
      exact th_iret (v := v22) S hr rfl hlk hAe hw (⟨pf45, na19, ma32, wa, rfl, (show (pf 11).toInt + 1 ≤ (pf45 11).toInt from by first | exact oz_a39e3a791c e7 e49 e25 e48.1 | omega), (show (pf45 11).toInt < (tf 6).toInt from by first | exact e50 | omega), (show (pf 13).toInt + 1 ≤ (pf45 13).toInt from by first | exact oz_24060ab0d2 e11 e53 e24 | omega), (show (pf45 13).toInt - (pf 13).toInt ≤ (pf45 11).toInt - (pf 11).toInt from by first | exact oz_0e37f16741 e7 e11 e49 e53 e24 e25 e48.1 | omega), (show bp ta (pf 11) + 1 ≤ bp ta (pf45 11) from by first | with_reducible rfl | with_reducible assumption | omega), (show (pf45 12).toInt = (pf 12).toInt from by first | exact oz_e13fc83238 e10 e52 e26 | omega), (show (pf45 24).toInt = (pf 24).toInt from by first | exact oz_e13fc83238 e12 e54 e27 | omega), (show (pf45 25).toInt = (pf 25).toInt from by first | exact oz_e13fc83238 e13 e55 e28 | omega), (show (pf45 26).toInt = (pf 26).toInt from by first | exact oz_e13fc83238 e14 e56 e29 | omega), (show FrB (pf 13).toInt na ma na19 ma32 from hfb), (show FrW (pf 26).toInt wa wa from hfw), (show VlR ta (tf 6).toInt na19 ma32 v22 (pf 13).toInt (pf45 13).toInt (3 * (bp ta (pf45 11) - bp ta (pf 11)) + 3) 130 from (VlV.le (vr_0 (hi := (pf45 13).toInt) (D := 130) ⟨by first | with_reducible rfl | with_reducible assumption | omega, hf_14_v22, hf_15_v22, ⟨by first | with_reducible rfl | with_reducible assumption | omega, by first | with_reducible rfl | with_reducible assumption | omega⟩, hf_21_v22⟩ (show SoIs ta v4 1 by assumption) (by first | with_reducible rfl | with_reducible assumption | omega) hf_17_v22 hf_22_v22 (by first | with_reducible rfl | with_reducible assumption | omega)) (by first | with_reducible rfl | with_reducible assumption | omega) (by first | with_reducible rfl | with_reducible assumption | omega) (by first | with_reducible rfl | with_reducible assumption | omega) (by first | with_reducible rfl | with_reducible assumption | omega))), (show FsI (tf 6).toInt (pf45 13).toInt na19 from (FsI.le hfs (by first | with_reducible rfl | with_reducible assumption | omega)))⟩) d_Mpg_variable_91
    · have nc57 : ¬ v47.toInt = (0 : Int) := mt (i_eq (x := v47) (y := 0)).mpr c57
      refine lv_aload_n S.x S.b d_Mpg_variable_73 rfl (lv_at hl 1 rfl) ?_
      refine px_get S k_Mpg hT hw 0 0 22 (v := .ref (r 22)) rfl rfl rfl (by decide) m10_9 d_Mpg_variable_74 ?_
      refine lv_iload_n S.x S.b d_Mpg_variable_77 rfl (lv_at hl 0 rfl) ?_
      refine lv_iconst (v := 1) S.x S.b d_Mpg_variable_78 (by decide) ?_
      refine px_iast S hT hw 0 18 (n := 2100) (f := (ma32 22)) (x := v22) (y := 1) rfl gp_22 (vp_in_iff.mpr (by constructor <;> omega)) d_Mpg_variable_79 (w' := wdP cs h r g tf ta pf45 na19 (va_up ma32 22 (upd (ma32 22) v22.toNatClampNeg 1)) wa cf ca ef ea xf xa) (ps' := [wdP cs h r g tf ta pf45 na19 (va_up ma32 22 (upd (ma32 22) v22.toNatClampNeg 1)) wa cf ca ef ea xf xa]) sp_22 rfl (fun H locs hw => ?_)
      obtain ⟨ma58, hu_ma58⟩ : ∃ y : Nat → Nat → Int32, y = va_up ma32 22 (upd (ma32 22) v22.toNatClampNeg 1) := ⟨_, rfl⟩
      have hw : pw D A s.heap _ _ [wdP cs h r g tf ta pf45 na19 ma58 wa cf ca ef ea xf xa] := (by rw [hu_ma58]; exact hw)
      have hf_22_v22 : ma58 22 v22.toNatClampNeg = (1 : Int32) := (by rw [hu_ma58, va_up_s, pk_us])
      have hfb : FrB (pf 13).toInt na ma na19 ma58 := (by rw [hu_ma58]; exact FrB.um hfb (by first | with_reducible rfl | with_reducible assumption | omega) (by first | with_reducible rfl | with_reducible assumption | omega))
      refine lv_aload_n S.x S.b d_Mpg_variable_80 rfl (lv_at hl 1 rfl) ?_
      refine px_get S k_Mpg hT hw 0 0 18 (v := .ref (r 18)) rfl rfl rfl (by decide) m10_3 d_Mpg_variable_81 ?_
      refine lv_iload_n S.x S.b d_Mpg_variable_84 rfl (lv_at hl 0 rfl) ?_
      refine lv_aload_n S.x S.b d_Mpg_variable_85 rfl (lv_at hl 1 rfl) ?_
      refine th_calli (ps0 := [wdP cs h r g tf ta pf na ma wa cf ca ef ea xf xa]) (pr := []) (pcs := [wdP cs h r g tf ta pf45 na19 ma58 wa cf ca ef ea xf xa]) (As := []) (rest := [.int v22, .ref (r 18)]) (c_S_expression l D cs h r g tf ta cf ca ef ea xf xa pf45 na19 ma58 wa  lv (show 0 ≤ (pf45 11).toInt from by first | exact oz_a20ea26d85 e49 e25 e48.1 g0 e7 | omega) (show (pf45 11).toInt < (tf 6).toInt from by first | exact e50 | omega) (show (tf 6).toInt ≤ 2049 from by first | exact g2 | omega) (show 0 ≤ (pf45 12).toInt from by first | exact oz_11e71ee49a e52 e26 e10 g3 | omega) (show (pf45 12).toInt ≤ 60 from by first | exact oz_9c5f4b2410 e52 e26 e10 g4 | omega) (show 0 ≤ (pf45 13).toInt from by first | exact oz_18519da00e e53 e24 e11 g5 | omega) (show (pf45 13).toInt ≤ (pf45 11).toInt + 20 from by first | exact oz_f11508e9ce e49 e53 e24 e25 e48.1 g6 e7 e11 | omega) (show 0 ≤ (pf45 26).toInt from by first | exact oz_11e71ee49a e56 e29 e14 g7 | omega) (show (pf45 26).toInt ≤ (pf45 12).toInt from by first | exact oz_bfab698a8f e52 e56 e26 e29 e10 e14 g8 | omega) (show 61 ≤ (pf45 12).toInt + (lv : Int) from by first | exact oz_85fe22b1fe g9 e52 e10 e26 | omega) (show lv ≤ 61 from by first | exact g10 | omega) hlf htk (FsI.le (N' := (pf45 13).toInt) hfs (by first | with_reducible rfl | with_reducible assumption | omega))) S hT hw (oX_call (P := (fun A U H => (oN A U H) ∧ (oP A g U H))) (pr := []) (oG_and oG_N oG_P) hw hA ⟨hN, hP⟩) (px_recv hT hw 0 0 rfl rfl rfl) m12_38 m12_35 m12_37 ms_9_11 m1_21 q_Mpg_expression ⟨show (8 * lv + 20) + 1 ≤ (8 * lv + 23) from by first | with_reducible rfl | with_reducible assumption | omega, show 8 + (7 + 11) + (220 * lv + 720) ≤ (220 * lv + 1080) from by first | with_reducible rfl | with_reducible assumption | omega⟩ hl.1 rfl (Nat.le_of_ble_eq_true rfl) d_Mpg_variable_86 ⟨Nat.le_of_ble_eq_true rfl, Nat.le_of_ble_eq_true rfl⟩ hne hlk hA hAe (fun o t h => Or.inr h) ?_ (fun v68 p67 H locs hp67 hw => ?_)
      · exact fun p1 H1 locs1 hp hw => by obtain ⟨pq1, pq2, pq3, pq4, rfl, hq1, hq2⟩ := hp; exact ⟨_, ⟨pq1, pq2, pq3, pq4, rfl, hq1, hq2⟩, hw⟩
      obtain ⟨pf63, na64, ma65, wa66, rfl, e69, e70, e71, e72, e73, e74, e75, e76, e77, e78, e79, e80, e81⟩ := hp67
      have e69 : (pf45 11).toInt + 1 ≤ (pf63 11).toInt := e69
      have e70 : (pf63 11).toInt < (tf 6).toInt := e70
      have e71 : (pf45 13).toInt + 1 ≤ (pf63 13).toInt := e71
      have e72 : (pf63 13).toInt - (pf45 13).toInt ≤ (pf63 11).toInt - (pf45 11).toInt := e72
      have e73 : bp ta (pf45 11) + 1 ≤ bp ta (pf63 11) := e73
      have e74 : (pf63 12).toInt = (pf45 12).toInt := e74
      have e75 : (pf63 24).toInt = (pf45 24).toInt := e75
      have e76 : (pf63 25).toInt = (pf45 25).toInt := e76
      have e77 : (pf63 26).toInt = (pf45 26).toInt := e77
      have e78 : FrB (pf45 13).toInt na19 ma58 na64 ma65 := e78
      have hf_14_v22 := (fb_n e78 (by first | with_reducible rfl | with_reducible assumption | omega) (by first | with_reducible rfl | with_reducible assumption | omega)).trans hf_14_v22
      have hf_15_v22 := (fb_n e78 (by first | with_reducible rfl | with_reducible assumption | omega) (by first | with_reducible rfl | with_reducible assumption | omega)).trans hf_15_v22
      have hf_17_v22 := (fb_n e78 (by first | with_reducible rfl | with_reducible assumption | omega) (by first | with_reducible rfl | with_reducible assumption | omega)).trans hf_17_v22
      have hf_21_v22 := (fb_n e78 (by first | with_reducible rfl | with_reducible assumption | omega) (by first | with_reducible rfl | with_reducible assumption | omega)).trans hf_21_v22
      have hf_22_v22 := (fb_m e78 (by first | with_reducible rfl | with_reducible assumption | omega) (by first | with_reducible rfl | with_reducible assumption | omega)).trans hf_22_v22
      have hfb := hfb.tr e78 (by first | with_reducible rfl | with_reducible assumption | omega)
      have e79 : FrW (pf45 26).toInt wa wa66 := e79
      have hfw := hfw.tr e79 (by first | with_reducible rfl | with_reducible assumption | omega)
      have e80 : ExR ta (tf 6).toInt na64 ma65 v68 (pf45 13).toInt (pf63 13).toInt (3 * (bp ta (pf63 11) - bp ta (pf45 11))) (pf45 12).toInt := e80
      have ht_v68 := e80
      have hn_ht_v68 := ht_v68.num
      have e81 : FsI (tf 6).toInt (pf63 13).toInt na64 := e81
      have hfs := e81
      have hw : pw D A s.heap H locs [wdP cs h r g tf ta pf63 na64 ma65 wa66 cf ca ef ea xf xa] := hw
      have lv68 := Int32.le_toInt v68
      have uv68 := Int32.toInt_lt v68
      refine px_iast S hT hw 0 14 (n := 2100) (f := (ma65 18)) (x := v22) (y := v68) rfl gp_18 (vp_in_iff.mpr (by constructor <;> omega)) d_Mpg_variable_89 (w' := wdP cs h r g tf ta pf63 na64 (va_up ma65 18 (upd (ma65 18) v22.toNatClampNeg v68)) wa66 cf ca ef ea xf xa) (ps' := [wdP cs h r g tf ta pf63 na64 (va_up ma65 18 (upd (ma65 18) v22.toNatClampNeg v68)) wa66 cf ca ef ea xf xa]) sp_18 rfl (fun H locs hw => ?_)
      obtain ⟨ma82, hu_ma82⟩ : ∃ y : Nat → Nat → Int32, y = va_up ma65 18 (upd (ma65 18) v22.toNatClampNeg v68) := ⟨_, rfl⟩
      have hw : pw D A s.heap _ _ [wdP cs h r g tf ta pf63 na64 ma82 wa66 cf ca ef ea xf xa] := (by rw [hu_ma82]; exact hw)
      obtain ⟨ht_v68, hdq_v68⟩ := ht_v68.ag (ag_m hu_ma82 (by first | with_reducible rfl | with_reducible assumption | omega) (by first | with_reducible rfl | with_reducible assumption | omega)) (by first | with_reducible rfl | with_reducible assumption | omega)
      have hn_ht_v68 := ht_v68.num
      have hf_22_v22 := (fl_n hu_ma82 (by decide)).trans hf_22_v22
      have hf_18_v22 : ma82 18 v22.toNatClampNeg = v68 := (by rw [hu_ma82, va_up_s, pk_us])
      have hfb : FrB (pf 13).toInt na ma na64 ma82 := (by rw [hu_ma82]; exact FrB.um hfb (by first | with_reducible rfl | with_reducible assumption | omega) (by first | with_reducible rfl | with_reducible assumption | omega))
      refine lv_iload_n S.x S.b d_Mpg_variable_90 rfl (lv_at hl 0 rfl) ?_
      exact th_iret (v := v22) S hr rfl hlk hAe hw (⟨pf63, na64, ma82, wa66, rfl, (show (pf 11).toInt + 1 ≤ (pf63 11).toInt from by first | exact oz_e19ec92da6 e7 e69 e25 e49 e48.1 | omega), (show (pf63 11).toInt < (tf 6).toInt from by first | exact e70 | omega), (show (pf 13).toInt + 1 ≤ (pf63 13).toInt from by first | exact oz_e7ff4a7562 e11 e71 e24 e53 | omega), (show (pf63 13).toInt - (pf 13).toInt ≤ (pf63 11).toInt - (pf 11).toInt from by first | exact oz_114c64ebb3 e7 e11 e72 e24 e25 e49 e53 e48.1 | omega), (show bp ta (pf 11) + 1 ≤ bp ta (pf63 11) from by first | with_reducible rfl | with_reducible assumption | omega), (show (pf63 12).toInt = (pf 12).toInt from by first | exact oz_ff3084e3c1 e10 e74 e26 e52 | omega), (show (pf63 24).toInt = (pf 24).toInt from by first | exact oz_ff3084e3c1 e12 e75 e27 e54 | omega), (show (pf63 25).toInt = (pf 25).toInt from by first | exact oz_ff3084e3c1 e13 e76 e28 e55 | omega), (show (pf63 26).toInt = (pf 26).toInt from by first | exact oz_ff3084e3c1 e14 e77 e29 e56 | omega), (show FrB (pf 13).toInt na ma na64 ma82 from hfb), (show FrW (pf 26).toInt wa wa66 from hfw), (show VlR ta (tf 6).toInt na64 ma82 v22 (pf 13).toInt (pf63 13).toInt (3 * (bp ta (pf63 11) - bp ta (pf 11)) + 3) 130 from (VlV.le (vr_1 (hi := (pf63 13).toInt) (D := 130) ⟨by first | with_reducible rfl | with_reducible assumption | omega, hf_14_v22, hf_15_v22, ⟨by first | with_reducible rfl | with_reducible assumption | omega, by first | with_reducible rfl | with_reducible assumption | omega⟩, hf_21_v22⟩ (show SoIs ta v4 1 by assumption) hf_17_v22 hf_22_v22 hf_18_v22 (by first | with_reducible rfl | with_reducible assumption | omega) (lo := v22.toInt + 1) (VlV.le (exr_vl ht_v68 (by first | with_reducible rfl | with_reducible assumption | omega)) (by first | with_reducible rfl | with_reducible assumption | omega) (by first | with_reducible rfl | with_reducible assumption | omega) (Int.le_refl _) (by first | with_reducible rfl | with_reducible assumption | omega)) (by first | with_reducible rfl | with_reducible assumption | omega)) (by first | with_reducible rfl | with_reducible assumption | omega) (by first | with_reducible rfl | with_reducible assumption | omega) (by first | with_reducible rfl | with_reducible assumption | omega) (by first | with_reducible rfl | with_reducible assumption | omega))), (show FsI (tf 6).toInt (pf63 13).toInt na64 from (FsI.le hfs (by first | with_reducible rfl | with_reducible assumption | omega)))⟩) d_Mpg_variable_91
  · have nc40 : ¬ v37.toInt = (0 : Int) := mt (i_eq (x := v37) (y := 0)).mpr c40
    refine lv_aload_n S.x S.b d_Mpg_variable_27 rfl (lv_at hl 1 rfl) ?_
    refine th_callv (ps0 := [wdP cs h r g tf ta pf na ma wa cf ca ef ea xf xa]) (pr := []) (pcs := [wdP cs h r g tf ta pf18 na19 ma32 wa cf ca ef ea xf xa]) (As := []) (rest := []) (c_mp_opens l D cs h r g tf ta na19 ma32 wa cf ca ef ea xf xa pf18   (show 0 ≤ (pf18 11).toInt from by first | exact oz_78ad3463af e25 e7 g0 | omega) (show (pf18 11).toInt < (tf 6).toInt from by first | exact oz_5d2fbac15b e8 e25 | omega) (show (tf 6).toInt ≤ 2049 from by first | exact g2 | omega) (show (pf18 11).toInt + 1 < (tf 6).toInt from by first | with_reducible rfl | with_reducible assumption | omega) (show 0 ≤ (pf18 12).toInt from by first | exact oz_9bcc310e9c e26 e10 g8 g7 | omega) (show (pf18 12).toInt ≤ 60 from by first | exact oz_d791cd839d e26 e10 g4 | omega) hlf htk) S hT hw (oX_call (P := (fun A U H => (oN A U H) ∧ (oP A g U H))) (pr := []) (oG_and oG_N oG_P) hw hA ⟨hN, hP⟩) (px_recv hT hw 0 0 rfl rfl rfl) m11_238 m11_235 m11_237 ms_9_1 m1_21 q_Mpg_opens ⟨show 7 + 1 ≤ (8 * lv + 23) from by first | with_reducible rfl | with_reducible assumption | omega, show 8 + (1 + 11) + 150 ≤ (220 * lv + 1080) from by first | with_reducible rfl | with_reducible assumption | omega⟩ hl.1 rfl (Nat.le_of_ble_eq_true rfl) d_Mpg_variable_28 ⟨Nat.le_of_ble_eq_true rfl, Nat.le_of_ble_eq_true rfl⟩ hne hlk hA hAe (fun o t h => Or.inr h) ?_ (fun p85 H locs hp85 hw => ?_)
    · exact fun p1 H1 locs1 hp hw => by obtain ⟨pq1, pq2, pq3, pq4, rfl, hq1, hq2⟩ := hp; exact ⟨_, ⟨pq1, pq2, pq3, pq4, rfl, hq1, hq2⟩, hw⟩
    obtain ⟨pf84, rfl, e87, e88, e89, e90, e91, e92, e93, e94, e95, e96⟩ := hp85
    have e87 : (pf84 11).toInt = (pf18 11).toInt + 1 := e87
    have e88 : (pf84 11).toInt < (tf 6).toInt := e88
    have e89 : bp ta (pf18 11) + sz ta (pf18 11) ≤ bp ta (pf84 11) := e89
    have e90 : 1 ≤ sz ta (pf18 11) := e90
    have e91 : (pf84 12).toInt = (pf18 12).toInt + 1 := e91
    have e92 : (pf18 12).toInt < 60 := e92
    have e93 : (pf84 13).toInt = (pf18 13).toInt := e93
    have e94 : (pf84 24).toInt = (pf18 24).toInt := e94
    have e95 : (pf84 25).toInt = (pf18 25).toInt := e95
    have e96 : (pf84 26).toInt = (pf18 26).toInt := e96
    have hw : pw D A s.heap H locs [wdP cs h r g tf ta pf84 na19 ma32 wa cf ca ef ea xf xa] := hw
    refine lv_aload_n S.x S.b d_Mpg_variable_31 rfl (lv_at hl 1 rfl) ?_
    refine px_get S k_Mpg hT hw 0 0 17 (v := .ref (r 17)) rfl rfl rfl (by decide) m10_1 d_Mpg_variable_32 ?_
    refine lv_iload_n S.x S.b d_Mpg_variable_35 rfl (lv_at hl 0 rfl) ?_
    refine lv_aload_n S.x S.b d_Mpg_variable_36 rfl (lv_at hl 1 rfl) ?_
    refine th_calli (ps0 := [wdP cs h r g tf ta pf na ma wa cf ca ef ea xf xa]) (pr := []) (pcs := [wdP cs h r g tf ta pf84 na19 ma32 wa cf ca ef ea xf xa]) (As := []) (rest := [.int v22, .ref (r 17)]) (c_mp_constant l D cs h r g tf ta cf ca ef ea xf xa pf84 na19 ma32 wa  lv (show 0 ≤ (pf84 11).toInt from by first | exact oz_5322ca43be e87 e25 g0 e7 | omega) (show (pf84 11).toInt < (tf 6).toInt from by first | exact e88 | omega) (show (tf 6).toInt ≤ 2049 from by first | exact g2 | omega) (show 0 ≤ (pf84 12).toInt from by first | exact oz_cf2f95fbac e91 e26 e10 g3 | omega) (show (pf84 12).toInt ≤ 60 from by first | exact oz_6710fd9021 e91 e92 | omega) (show 0 ≤ (pf84 13).toInt from by first | exact oz_18519da00e e93 e24 e11 g5 | omega) (show (pf84 13).toInt ≤ (pf84 11).toInt + 10 from by first | exact oz_be30f41976 e87 e93 e24 e25 g6 e7 e11 | omega) (show 0 ≤ (pf84 26).toInt from by first | exact oz_11e71ee49a e96 e29 e14 g7 | omega) (show (pf84 26).toInt ≤ (pf84 12).toInt from by first | exact oz_0c528c1a49 e91 e96 e26 e29 e10 e14 g8 | omega) (show 61 ≤ (pf84 12).toInt + (lv : Int) from by first | exact oz_7d30a791a5 g9 e91 e10 e26 | omega) (show lv ≤ 61 from by first | exact g10 | omega) hlf htk (FsI.le (N' := (pf84 13).toInt) hfs (by first | with_reducible rfl | with_reducible assumption | omega))) S hT hw (oX_call (P := (fun A U H => (oN A U H) ∧ (oP A g U H))) (pr := []) (oG_and oG_N oG_P) hw hA ⟨hN, hP⟩) (px_recv hT hw 0 0 rfl rfl rfl) m12_10 m12_7 m12_9 ms_9_4 m1_21 q_Mpg_constant ⟨show (8 * lv + 21) + 1 ≤ (8 * lv + 23) from by first | with_reducible rfl | with_reducible assumption | omega, show 8 + (2 + 11) + (220 * lv + 720) ≤ (220 * lv + 1080) from by first | with_reducible rfl | with_reducible assumption | omega⟩ hl.1 rfl (Nat.le_of_ble_eq_true rfl) d_Mpg_variable_37 ⟨Nat.le_of_ble_eq_true rfl, Nat.le_of_ble_eq_true rfl⟩ hne hlk hA hAe (fun o t h => Or.inr h) ?_ (fun v106 p105 H locs hp105 hw => ?_)
    · exact fun p1 H1 locs1 hp hw => by obtain ⟨pq1, pq2, pq3, pq4, rfl, hq1, hq2⟩ := hp; exact ⟨_, ⟨pq1, pq2, pq3, pq4, rfl, hq1, hq2⟩, hw⟩
    obtain ⟨pf101, na102, ma103, wa104, rfl, e107, e108, e109, e110, e111, e112, e113, e114, e115, e116, e117, e118, e119⟩ := hp105
    have e107 : (pf84 11).toInt + 1 ≤ (pf101 11).toInt := e107
    have e108 : (pf101 11).toInt < (tf 6).toInt := e108
    have e109 : (pf84 13).toInt + 1 ≤ (pf101 13).toInt := e109
    have e110 : (pf101 13).toInt - (pf84 13).toInt ≤ (pf101 11).toInt - (pf84 11).toInt := e110
    have e111 : bp ta (pf84 11) + 1 ≤ bp ta (pf101 11) := e111
    have e112 : (pf101 12).toInt = (pf84 12).toInt := e112
    have e113 : (pf101 24).toInt = (pf84 24).toInt := e113
    have e114 : (pf101 25).toInt = (pf84 25).toInt := e114
    have e115 : (pf101 26).toInt = (pf84 26).toInt := e115
    have e116 : FrB (pf84 13).toInt na19 ma32 na102 ma103 := e116
    have hf_14_v22 := (fb_n e116 (by first | with_reducible rfl | with_reducible assumption | omega) (by first | with_reducible rfl | with_reducible assumption | omega)).trans hf_14_v22
    have hf_15_v22 := (fb_n e116 (by first | with_reducible rfl | with_reducible assumption | omega) (by first | with_reducible rfl | with_reducible assumption | omega)).trans hf_15_v22
    have hf_17_v22 := (fb_n e116 (by first | with_reducible rfl | with_reducible assumption | omega) (by first | with_reducible rfl | with_reducible assumption | omega)).trans hf_17_v22
    have hf_21_v22 := (fb_n e116 (by first | with_reducible rfl | with_reducible assumption | omega) (by first | with_reducible rfl | with_reducible assumption | omega)).trans hf_21_v22
    have hf_22_v22 := (fb_m e116 (by first | with_reducible rfl | with_reducible assumption | omega) (by first | with_reducible rfl | with_reducible assumption | omega)).trans hf_22_v22
    have hfb := hfb.tr e116 (by first | with_reducible rfl | with_reducible assumption | omega)
    have e117 : FrW (pf84 26).toInt wa wa104 := e117
    have hfw := hfw.tr e117 (by first | with_reducible rfl | with_reducible assumption | omega)
    have e118 : ExR ta (tf 6).toInt na102 ma103 v106 (pf84 13).toInt (pf101 13).toInt (3 * (bp ta (pf101 11) - bp ta (pf84 11))) (pf84 12).toInt := e118
    have ht_v106 := e118
    have hn_ht_v106 := ht_v106.num
    have e119 : FsI (tf 6).toInt (pf101 13).toInt na102 := e119
    have hfs := e119
    have hw : pw D A s.heap H locs [wdP cs h r g tf ta pf101 na102 ma103 wa104 cf ca ef ea xf xa] := hw
    have lv106 := Int32.le_toInt v106
    have uv106 := Int32.toInt_lt v106
    refine px_iast S hT hw 0 13 (n := 2100) (f := (na102 17)) (x := v22) (y := v106) rfl gp_17 (vp_in_iff.mpr (by constructor <;> omega)) d_Mpg_variable_40 (w' := wdP cs h r g tf ta pf101 (va_up na102 17 (upd (na102 17) v22.toNatClampNeg v106)) ma103 wa104 cf ca ef ea xf xa) (ps' := [wdP cs h r g tf ta pf101 (va_up na102 17 (upd (na102 17) v22.toNatClampNeg v106)) ma103 wa104 cf ca ef ea xf xa]) sp_17 rfl (fun H locs hw => ?_)
    obtain ⟨na120, hu_na120⟩ : ∃ y : Nat → Nat → Int32, y = va_up na102 17 (upd (na102 17) v22.toNatClampNeg v106) := ⟨_, rfl⟩
    have hw : pw D A s.heap _ _ [wdP cs h r g tf ta pf101 na120 ma103 wa104 cf ca ef ea xf xa] := (by rw [hu_na120]; exact hw)
    obtain ⟨ht_v106, hdq_v106⟩ := ht_v106.ag (ag_n hu_na120 (by first | with_reducible rfl | with_reducible assumption | omega) (by first | with_reducible rfl | with_reducible assumption | omega)) (by first | with_reducible rfl | with_reducible assumption | omega)
    have hn_ht_v106 := ht_v106.num
    have hf_14_v22 := (fl_n hu_na120 (by decide)).trans hf_14_v22
    have hf_15_v22 := (fl_n hu_na120 (by decide)).trans hf_15_v22
    have hf_21_v22 := (fl_n hu_na120 (by decide)).trans hf_21_v22
    have hf_17_v22 : na120 17 v22.toNatClampNeg = v106 := (by rw [hu_na120, va_up_s, pk_us])
    have hfs : FsI _ _ na120 := (by rw [hu_na120]; exact FsI.un hfs (by decide))
    have hfb : FrB (pf 13).toInt na ma na120 ma103 := (by rw [hu_na120]; exact FrB.un hfb (by first | with_reducible rfl | with_reducible assumption | omega) (by first | with_reducible rfl | with_reducible assumption | omega))
    refine lv_aload_n S.x S.b d_Mpg_variable_41 rfl (lv_at hl 1 rfl) ?_
    obtain ⟨sk121, hRsk121, st122, sb123, hSsk121⟩ := oP_lit hP (k := 97) (tx := "]") (n := 1) (List.mem_of_getElem? (i := 40) rfl)
    refine va_ldcS S.x S.b S.own hRsk121 d_Mpg_variable_42 ?_
    refine th_callv (ps0 := [wdP cs h r g tf ta pf na ma wa cf ca ef ea xf xa]) (pr := []) (pcs := [wdP cs h r g tf ta pf101 na120 ma103 wa104 cf ca ef ea xf xa]) (As := [.ref sk121]) (rest := []) (c_mp_closes l D cs sk121 1 h r g tf ta na120 ma103 wa104 cf ca ef ea xf xa pf101   (show 0 ≤ (pf101 11).toInt from by first | exact oz_519ae28419 e107 e87 g0 e7 e25 | omega) (show (pf101 11).toInt < (tf 6).toInt from by first | exact e108 | omega) (show (tf 6).toInt ≤ 2049 from by first | exact g2 | omega) (show 1 ≤ (pf101 12).toInt from by first | exact oz_dcaedb610d e112 e91 e26 e10 g8 g7 | omega) (show (pf101 12).toInt ≤ 60 from by first | exact oz_1a76b13bbc e112 e91 e92 | omega) (show 1 ≤ 100 from by first | decide | omega) hlf htk) S hT hw (oX_call (P := (fun A U H => (oN A U H) ∧ (oP A g U H) ∧ (StS A sk121 1 U H))) (pr := []) (oG_and oG_N (oG_and oG_P oG_Q)) hw hA ⟨hN, hP, ⟨_, _, hSsk121⟩⟩) (px_recv hT hw 0 0 rfl rfl rfl) m12_53 m12_50 m12_52 ms_9_14 m1_21 q_Mpg_closes ⟨show 8 + 1 ≤ (8 * lv + 23) from by first | with_reducible rfl | with_reducible assumption | omega, show 8 + (2 + 11) + 280 ≤ (220 * lv + 1080) from by first | with_reducible rfl | with_reducible assumption | omega⟩ hl.1 rfl (Nat.le_of_ble_eq_true rfl) d_Mpg_variable_44 ⟨Nat.le_of_ble_eq_true rfl, Nat.le_of_ble_eq_true rfl⟩ hne hlk hA hAe (fun o t h => Or.inr h) ?_ (fun p126 H locs hp126 hw => ?_)
    · exact fun p1 H1 locs1 hp hw => by obtain ⟨pq1, pq2, pq3, pq4, rfl, hq1, hq2⟩ := hp; exact ⟨_, ⟨pq1, pq2, pq3, pq4, rfl, hq1, hq2⟩, hw⟩
    obtain ⟨pf125, rfl, e128, e129, e130, e131, e132, e133, e134, e135⟩ := hp126
    have e128 : (pf125 11).toInt = (pf101 11).toInt + 1 := e128
    have e129 : (pf125 11).toInt < (tf 6).toInt := e129
    have e130 : bp ta (pf101 11) + 1 ≤ bp ta (pf125 11) := e130
    have e131 : (pf125 12).toInt = (pf101 12).toInt - 1 := e131
    have e132 : (pf125 13).toInt = (pf101 13).toInt := e132
    have e133 : (pf125 24).toInt = (pf101 24).toInt := e133
    have e134 : (pf125 25).toInt = (pf101 25).toInt := e134
    have e135 : (pf125 26).toInt = (pf101 26).toInt := e135
    have hw : pw D A s.heap H locs [wdP cs h r g tf ta pf125 na120 ma103 wa104 cf ca ef ea xf xa] := hw
    refine lv_aload_n S.x S.b d_Mpg_variable_47 rfl (lv_at hl 1 rfl) ?_
    obtain ⟨sk136, hRsk136, st137, sb138, hSsk136⟩ := oP_lit hP (k := 107) (tx := "=") (n := 1) (List.mem_of_getElem? (i := 45) rfl)
    refine va_ldcS S.x S.b S.own hRsk136 d_Mpg_variable_48 ?_
    refine px_calli (pr := []) (px_runV (As := [.ref sk136]) (rest := []) S (c_mp_takes l D cs sk136 1 h r g tf ta na120 ma103 wa104 cf ca ef ea xf xa pf125   (show 0 ≤ (pf125 11).toInt from by first | exact oz_c7dd3fa87a e128 e107 g0 e7 e25 e87 | omega) (show (pf125 11).toInt < (tf 6).toInt from by first | exact e129 | omega) (show (tf 6).toInt ≤ 2049 from by first | exact g2 | omega) (show 1 ≤ 100 from by first | decide | omega) htk _) hT (pr := []) (pcs := [wdP cs h r g tf ta pf125 na120 ma103 wa104 cf ca ef ea xf xa]) hw (oX_call (P := (fun A U H => (oP A g U H) ∧ (StS A sk136 1 U H))) (pr := []) (oG_and oG_P oG_Q) hw hA ⟨hP, ⟨_, _, hSsk136⟩⟩) (px_recv hT hw 0 0 rfl rfl rfl) m12_6 m12_3 m12_5 ms_9_3 m1_21 q_Mpg_takes ⟨show 4 + 1 ≤ (8 * lv + 23) from by first | with_reducible rfl | with_reducible assumption | omega, show 8 + (3 + 11) + 160 ≤ (220 * lv + 1080) from by first | with_reducible rfl | with_reducible assumption | omega⟩ hl.1 rfl (Nat.le_of_ble_eq_true rfl) d_Mpg_variable_50 ⟨Nat.le_of_ble_eq_true rfl, Nat.le_of_ble_eq_true rfl⟩) hw hA (fun v142 p141 H locs hp141 hw => ?_)
    obtain ⟨pf140, rfl, e143, e144, e145, e146, e147, e148, e149, e150, e151⟩ := hp141
    have e143 := z_rng e143
    have e144 : (pf140 11).toInt = (pf125 11).toInt + v142.toInt := e144
    have e145 : (pf140 11).toInt < (tf 6).toInt := e145
    have e146 : bp ta (pf125 11) + v142.toInt ≤ bp ta (pf140 11) := e146
    have e147 : (pf140 12).toInt = (pf125 12).toInt := e147
    have e148 : (pf140 13).toInt = (pf125 13).toInt := e148
    have e149 : (pf140 24).toInt = (pf125 24).toInt := e149
    have e150 : (pf140 25).toInt = (pf125 25).toInt := e150
    have e151 : (pf140 26).toInt = (pf125 26).toInt := e151
    have hw : pw D A s.heap H locs [wdP cs h r g tf ta pf140 na120 ma103 wa104 cf ca ef ea xf xa] := hw
    have lv142 := Int32.le_toInt v142
    have uv142 := Int32.toInt_lt v142
    refine lv_if_eq (tgt := 90) S.x S.b d_Mpg_variable_53 (by decide) (fun c152 => ?_) (fun c152 => ?_)
    · have nc152 : v142.toInt = (0 : Int) := (i_eq (x := v142) (y := 0)).mp c152
      refine lv_iload_n S.x S.b d_Mpg_variable_90 rfl (lv_at hl 0 rfl) ?_
      exact th_iret (v := v22) S hr rfl hlk hAe hw (⟨pf140, na120, ma103, wa104, rfl, (show (pf 11).toInt + 1 ≤ (pf140 11).toInt from by first | exact oz_a3e699849a e7 e144 e25 e128 e143.1 e87 e107 | omega), (show (pf140 11).toInt < (tf 6).toInt from by first | exact e145 | omega), (show (pf 13).toInt + 1 ≤ (pf140 13).toInt from by first | exact oz_9efa0bf84c e11 e148 e24 e132 e93 e109 | omega), (show (pf140 13).toInt - (pf 13).toInt ≤ (pf140 11).toInt - (pf 11).toInt from by first | exact oz_9ee47fe6a1 e7 e11 e144 e148 e24 e25 e128 e132 e143.1 e87 e93 e110 | omega), (show bp ta (pf 11) + 1 ≤ bp ta (pf140 11) from by first | with_reducible rfl | with_reducible assumption | omega), (show (pf140 12).toInt = (pf 12).toInt from by first | exact oz_0e50ed1885 e10 e147 e26 e131 e91 e112 | omega), (show (pf140 24).toInt = (pf 24).toInt from by first | exact oz_a783471c71 e12 e149 e27 e133 e94 e113 | omega), (show (pf140 25).toInt = (pf 25).toInt from by first | exact oz_a783471c71 e13 e150 e28 e134 e95 e114 | omega), (show (pf140 26).toInt = (pf 26).toInt from by first | exact oz_a783471c71 e14 e151 e29 e135 e96 e115 | omega), (show FrB (pf 13).toInt na ma na120 ma103 from hfb), (show FrW (pf 26).toInt wa wa104 from hfw), (show VlR ta (tf 6).toInt na120 ma103 v22 (pf 13).toInt (pf140 13).toInt (3 * (bp ta (pf140 11) - bp ta (pf 11)) + 3) 130 from (VlV.le (vr_a0 (hi := (pf140 13).toInt) (D := 130) ⟨by first | with_reducible rfl | with_reducible assumption | omega, hf_14_v22, hf_15_v22, ⟨by first | with_reducible rfl | with_reducible assumption | omega, by first | with_reducible rfl | with_reducible assumption | omega⟩, hf_21_v22⟩ (show SoIs ta v4 1 by assumption) hf_17_v22 hf_22_v22 (by first | with_reducible rfl | with_reducible assumption | omega) (lo := v22.toInt + 1) (VlV.le (exr_vl ht_v106 (by first | with_reducible rfl | with_reducible assumption | omega)) (by first | with_reducible rfl | with_reducible assumption | omega) (by first | with_reducible rfl | with_reducible assumption | omega) (Int.le_refl _) (by first | with_reducible rfl | with_reducible assumption | omega)) (by first | with_reducible rfl | with_reducible assumption | omega)) (by first | with_reducible rfl | with_reducible assumption | omega) (by first | with_reducible rfl | with_reducible assumption | omega) (by first | with_reducible rfl | with_reducible assumption | omega) (by first | with_reducible rfl | with_reducible assumption | omega))), (show FsI (tf 6).toInt (pf140 13).toInt na120 from (FsI.le hfs (by first | with_reducible rfl | with_reducible assumption | omega)))⟩) d_Mpg_variable_91
    · have nc152 : ¬ v142.toInt = (0 : Int) := mt (i_eq (x := v142) (y := 0)).mpr c152
      refine lv_aload_n S.x S.b d_Mpg_variable_56 rfl (lv_at hl 1 rfl) ?_
      refine lv_iload_n S.x S.b d_Mpg_variable_57 rfl (lv_at hl 0 rfl) ?_
      refine th_callv (ps0 := [wdP cs h r g tf ta pf na ma wa cf ca ef ea xf xa]) (pr := []) (pcs := [wdP cs h r g tf ta pf140 na120 ma103 wa104 cf ca ef ea xf xa]) (As := [.int v22]) (rest := []) (c_mp_arrayValue l D cs h r g tf ta cf ca ef ea xf xa pf140 na120 ma103 wa104 v22 lv (show 0 ≤ (pf140 11).toInt from by first | exact oz_9c07d0d680 e144 e128 e143.1 g0 e7 e25 e87 e107 | omega) (show (pf140 11).toInt < (tf 6).toInt from by first | exact e145 | omega) (show (tf 6).toInt ≤ 2049 from by first | exact g2 | omega) (show 0 ≤ (pf140 12).toInt from by first | exact oz_ce2203671d e147 e131 e112 e91 e26 e10 g8 g7 | omega) (show (pf140 12).toInt ≤ 60 from by first | exact oz_ddab08c2ef e147 e131 e112 e91 e92 | omega) (show 0 ≤ (pf140 13).toInt from by first | exact oz_8489396632 e148 e132 e109 e93 e24 e11 g5 | omega) (show (pf140 13).toInt ≤ (pf140 11).toInt + 10 from by first | exact oz_75ff170364 e144 e148 e128 e132 e143.1 g6 e7 e25 e87 e110 e11 e93 e24 | omega) (show 0 ≤ (pf140 26).toInt from by first | exact oz_208e951691 e151 e135 e115 e96 e29 e14 g7 | omega) (show (pf140 26).toInt ≤ (pf140 12).toInt from by first | exact oz_0cc86014eb e147 e151 e131 e135 e112 e115 e91 e96 e26 e29 e10 e14 g8 | omega) (show 61 ≤ (pf140 12).toInt + (lv : Int) from by first | exact oz_d1b755c2b4 g9 e147 e10 e131 e26 e112 e91 | omega) (show lv ≤ 61 from by first | exact g10 | omega) (show 0 ≤ v22.toInt from by first | exact oz_e2fef14871 e23 e11 g5 | omega) (show v22.toInt < (pf140 13).toInt from by first | exact oz_72b69290f2 e23 e148 e24 e132 e93 e109 | omega) hlf htk (FsI.le (N' := (pf140 13).toInt) hfs (by first | with_reducible rfl | with_reducible assumption | omega))) S hT hw (oX_call (P := (fun A U H => (oN A U H) ∧ (oP A g U H))) (pr := []) (oG_and oG_N oG_P) hw hA ⟨hN, hP⟩) (px_recv hT hw 0 0 rfl rfl rfl) m12_117 m12_114 m12_116 ms_10_14 m1_21 q_Mpg_arrayValue ⟨show (8 * lv + 22) + 1 ≤ (8 * lv + 23) from by first | with_reducible rfl | with_reducible assumption | omega, show 8 + (4 + 11) + (220 * lv + 1040) ≤ (220 * lv + 1080) from by first | with_reducible rfl | with_reducible assumption | omega⟩ hl.1 rfl (Nat.le_of_ble_eq_true rfl) d_Mpg_variable_58 ⟨Nat.le_of_ble_eq_true rfl, Nat.le_of_ble_eq_true rfl⟩ hne hlk hA hAe (fun o t h => Or.inr h) ?_ (fun p161 H locs hp161 hw => ?_)
      · exact fun p1 H1 locs1 hp hw => by obtain ⟨pq1, pq2, pq3, pq4, rfl, hq1, hq2⟩ := hp; exact ⟨_, ⟨pq1, pq2, pq3, pq4, rfl, hq1, hq2⟩, hw⟩
      obtain ⟨pf157, na158, ma159, wa160, rfl, e163, e164, e165, e166, e167, e168, e169, e170, e171, e172, e173, e174, e175⟩ := hp161
      have e163 : (pf140 11).toInt + 1 ≤ (pf157 11).toInt := e163
      have e164 : (pf157 11).toInt < (tf 6).toInt := e164
      have e165 : (pf140 13).toInt ≤ (pf157 13).toInt := e165
      have e166 : (pf157 13).toInt - (pf140 13).toInt ≤ (pf157 11).toInt - (pf140 11).toInt := e166
      have e167 : bp ta (pf140 11) + 1 ≤ bp ta (pf157 11) := e167
      have e168 : (pf157 12).toInt = (pf140 12).toInt := e168
      have e169 : (pf157 24).toInt = (pf140 24).toInt := e169
      have e170 : (pf157 25).toInt = (pf140 25).toInt := e170
      have e171 : (pf157 26).toInt = (pf140 26).toInt := e171
      have e172 : FrV (pf140 13).toInt v22 na120 ma103 na158 ma159 := e172
      have hf_14_v22 := (FrV.fn e172 (by first | with_reducible rfl | with_reducible assumption | omega) (by first | with_reducible rfl | with_reducible assumption | omega)).trans hf_14_v22
      have hf_15_v22 := (FrV.fn e172 (by first | with_reducible rfl | with_reducible assumption | omega) (by first | with_reducible rfl | with_reducible assumption | omega)).trans hf_15_v22
      have hf_17_v22 := (FrV.fn e172 (by first | with_reducible rfl | with_reducible assumption | omega) (by first | with_reducible rfl | with_reducible assumption | omega)).trans hf_17_v22
      have hf_21_v22 := (FrV.fn e172 (by first | with_reducible rfl | with_reducible assumption | omega) (by first | with_reducible rfl | with_reducible assumption | omega)).trans hf_21_v22
      obtain ⟨ht_v106, hdq_v106⟩ := ht_v106.ag (FrV.ag e172 (by first | with_reducible rfl | with_reducible assumption | omega) (by first | with_reducible rfl | with_reducible assumption | omega)) (by first | with_reducible rfl | with_reducible assumption | omega)
      have hn_ht_v106 := ht_v106.num
      have hfb := FrV.fb e172 hfb (by first | with_reducible rfl | with_reducible assumption | omega) (by first | with_reducible rfl | with_reducible assumption | omega)
      have e173 : FrW (pf140 26).toInt wa104 wa160 := e173
      have hfw := hfw.tr e173 (by first | with_reducible rfl | with_reducible assumption | omega)
      have e174 : AvV ta (tf 6).toInt na158 ma159 v22 (pf140 11) (pf140 13).toInt (pf157 13).toInt (3 * (bp ta (pf157 11) - bp ta (pf140 11))) 130 := e174
      have hav := e174
      have e175 : FsI (tf 6).toInt (pf157 13).toInt na158 := e175
      have hfs := e175
      have hw : pw D A s.heap H locs [wdP cs h r g tf ta pf157 na158 ma159 wa160 cf ca ef ea xf xa] := hw
      refine lv_goto (tgt := 90) S.x S.b d_Mpg_variable_61 (by decide) ?_
      refine lv_iload_n S.x S.b d_Mpg_variable_90 rfl (lv_at hl 0 rfl) ?_
      exact th_iret (v := v22) S hr rfl hlk hAe hw (⟨pf157, na158, ma159, wa160, rfl, (show (pf 11).toInt + 1 ≤ (pf157 11).toInt from by first | exact oz_63646b65f0 e7 e163 e25 e144 e87 e107 e128 e143.1 | omega), (show (pf157 11).toInt < (tf 6).toInt from by first | exact e164 | omega), (show (pf 13).toInt + 1 ≤ (pf157 13).toInt from by first | exact oz_930744b6fe e11 e165 e24 e148 e93 e132 e109 | omega), (show (pf157 13).toInt - (pf 13).toInt ≤ (pf157 11).toInt - (pf 11).toInt from by first | exact oz_2d496d47b7 e7 e11 e166 e24 e25 e144 e148 e87 e93 e110 e128 e132 e143.1 | omega), (show bp ta (pf 11) + 1 ≤ bp ta (pf157 11) from by first | with_reducible rfl | with_reducible assumption | omega), (show (pf157 12).toInt = (pf 12).toInt from by first | exact oz_b3e8b0d22b e10 e168 e26 e147 e91 e131 e112 | omega), (show (pf157 24).toInt = (pf 24).toInt from by first | exact oz_ada9f7f295 e12 e169 e27 e149 e94 e133 e113 | omega), (show (pf157 25).toInt = (pf 25).toInt from by first | exact oz_ada9f7f295 e13 e170 e28 e150 e95 e134 e114 | omega), (show (pf157 26).toInt = (pf 26).toInt from by first | exact oz_ada9f7f295 e14 e171 e29 e151 e96 e135 e115 | omega), (show FrB (pf 13).toInt na ma na158 ma159 from hfb), (show FrW (pf 26).toInt wa wa160 from hfw), (show VlR ta (tf 6).toInt na158 ma159 v22 (pf 13).toInt (pf157 13).toInt (3 * (bp ta (pf157 11) - bp ta (pf 11)) + 3) 130 from (VlV.le (AvV.vr hav ⟨by first | with_reducible rfl | with_reducible assumption | omega, hf_14_v22, hf_15_v22, ⟨by first | with_reducible rfl | with_reducible assumption | omega, by first | with_reducible rfl | with_reducible assumption | omega⟩, hf_21_v22⟩ (show SoIs ta v4 1 by assumption) hf_17_v22 (by first | with_reducible rfl | with_reducible assumption | omega) (VlV.le (exr_vl ht_v106 (by first | with_reducible rfl | with_reducible assumption | omega)) (lo' := v22.toInt + 1) (by first | with_reducible rfl | with_reducible assumption | omega) (by first | with_reducible rfl | with_reducible assumption | omega) (Int.le_refl _) (by first | with_reducible rfl | with_reducible assumption | omega)) (by first | with_reducible rfl | with_reducible assumption | omega) (by first | with_reducible rfl | with_reducible assumption | omega)) (by first | with_reducible rfl | with_reducible assumption | omega) (by first | with_reducible rfl | with_reducible assumption | omega) (by first | with_reducible rfl | with_reducible assumption | omega) (by first | with_reducible rfl | with_reducible assumption | omega))), (show FsI (tf 6).toInt (pf157 13).toInt na158 from (FsI.le hfs (by first | with_reducible rfl | with_reducible assumption | omega)))⟩) d_Mpg_variable_91
abbrev b_Mpg_variables : ByteArray := prog_16_method_43_code
def y_Mpg_variables : MethodName := ⟨"HomeSystemModel$Program", "variables", "()I"⟩
theorem d_Mpg_variables_0 : decode b_Mpg_variables 0 = .ok (.aload_n 0, 1) := by decide +kernel
theorem d_Mpg_variables_1 : decode b_Mpg_variables 1 = .ok (.invokevirtual 448, 3) := by decide +kernel
theorem d_Mpg_variables_4 : decode b_Mpg_variables 4 = .ok (.istore_n 1, 1) := by decide +kernel
theorem d_Mpg_variables_5 : decode b_Mpg_variables 5 = .ok (.iload_n 1, 1) := by decide +kernel
theorem d_Mpg_variables_6 : decode b_Mpg_variables 6 = .ok (.istore_n 2, 1) := by decide +kernel
theorem d_Mpg_variables_7 : decode b_Mpg_variables 7 = .ok (.aload_n 0, 1) := by decide +kernel
theorem d_Mpg_variables_8 : decode b_Mpg_variables 8 = .ok (.ldc 99, 2) := by decide +kernel
theorem d_Mpg_variables_10 : decode b_Mpg_variables 10 = .ok (.invokevirtual 370, 3) := by decide +kernel
theorem d_Mpg_variables_13 : decode b_Mpg_variables 13 = .ok (.ifCond .eq 20, 3) := by decide +kernel
theorem d_Mpg_variables_16 : decode b_Mpg_variables 16 = .ok (.aload_n 0, 1) := by decide +kernel
theorem d_Mpg_variables_17 : decode b_Mpg_variables 17 = .ok (.invokevirtual 448, 3) := by decide +kernel
theorem d_Mpg_variables_20 : decode b_Mpg_variables 20 = .ok (.istore_n 3, 1) := by decide +kernel
theorem d_Mpg_variables_21 : decode b_Mpg_variables 21 = .ok (.aload_n 0, 1) := by decide +kernel
theorem d_Mpg_variables_22 : decode b_Mpg_variables 22 = .ok (.getfield 228, 3) := by decide +kernel
theorem d_Mpg_variables_25 : decode b_Mpg_variables 25 = .ok (.iload_n 2, 1) := by decide +kernel
theorem d_Mpg_variables_26 : decode b_Mpg_variables 26 = .ok (.iload_n 3, 1) := by decide +kernel
theorem d_Mpg_variables_27 : decode b_Mpg_variables 27 = .ok (.iastore, 1) := by decide +kernel
theorem d_Mpg_variables_28 : decode b_Mpg_variables 28 = .ok (.iload_n 3, 1) := by decide +kernel
theorem d_Mpg_variables_29 : decode b_Mpg_variables 29 = .ok (.istore_n 2, 1) := by decide +kernel
theorem d_Mpg_variables_30 : decode b_Mpg_variables 30 = .ok (.goto (-23), 3) := by decide +kernel
theorem d_Mpg_variables_33 : decode b_Mpg_variables 33 = .ok (.iload_n 1, 1) := by decide +kernel
theorem d_Mpg_variables_34 : decode b_Mpg_variables 34 = .ok (.ireturn, 1) := by decide +kernel
theorem q_Mpg_variables : px_y y_Mpg_variables 0 := by unfold px_y; decide +kernel
set_option maxHeartbeats 4000000 in
set_option maxRecDepth 100000 in
theorem c_mp_variables (l : Launch) (D : va_G) (cs : Nat → ClassId) (h : Nat) (r : Nat → Nat) (g : Nat → Nat → Option Nat) (tf : Nat → Int32) (ta : Nat → Nat → Int32) (cf : Nat → Int32) (ca : Nat → Nat → Int32) (ef : Nat → Int32) (ea : Nat → Nat → Int32) (xf : Nat → Int32) (xa : Nat → Nat → Int32) (pf : Nat → Int32) (na : Nat → Nat → Int32) (ma : Nat → Nat → Int32) (wa : Nat → Nat → Int32) (lv : Nat) (g0 : 0 ≤ (pf 11).toInt) (g1 : (pf 11).toInt < (tf 6).toInt) (g2 : (tf 6).toInt ≤ 2049) (g3 : 0 ≤ (pf 12).toInt) (g4 : (pf 12).toInt ≤ 60) (g5 : 0 ≤ (pf 13).toInt) (g6 : (pf 13).toInt ≤ (pf 11).toInt + 10) (g7 : 0 ≤ (pf 26).toInt) (g8 : (pf 26).toInt ≤ (pf 12).toInt) (g9 : 61 ≤ (pf 12).toInt + (lv : Int)) (g10 : lv ≤ 61) (hlf : l.flags = pinnedFlags ++ [noTraceFlag]) (htk : TkI tf ta) (hfs : FsI (tf 6).toInt (pf 13).toInt na) : ThI l y_Mpg_variables b_Mpg_variables 4 (.int) D cs (8 * lv + 24) (220 * lv + 1120) [.ref h] [wdP cs h r g tf ta pf na ma wa cf ca ef ea xf xa] (oX (fun A U H => (oN A U H) ∧ (oP A g U H)) [wdP cs h r g tf ta pf na ma wa cf ca ef ea xf xa]) "java/lang/IllegalArgumentException" (fun v ps => ∃ (pf' : Nat → Int32) (na' : Nat → Nat → Int32) (ma' : Nat → Nat → Int32) (wa' : Nat → Nat → Int32), (ps = [wdP cs h r g tf ta pf' na' ma' wa' cf ca ef ea xf xa]) ∧ ((pf 11).toInt + 1 ≤ (pf' 11).toInt) ∧ ((pf' 11).toInt < (tf 6).toInt) ∧ ((pf 13).toInt + 1 ≤ (pf' 13).toInt) ∧ ((pf' 13).toInt - (pf 13).toInt ≤ (pf' 11).toInt - (pf 11).toInt) ∧ (bp ta (pf 11) + 1 ≤ bp ta (pf' 11)) ∧ ((pf' 12).toInt = (pf 12).toInt) ∧ ((pf' 24).toInt = (pf 24).toInt) ∧ ((pf' 25).toInt = (pf 25).toInt) ∧ ((pf' 26).toInt = (pf 26).toInt) ∧ (FrB (pf 13).toInt na ma na' ma') ∧ (FrW (pf 26).toInt wa wa') ∧ (RlR ta (tf 6).toInt na' ma' v (pf 13).toInt (pf' 13).toInt (3 * (bp ta (pf' 11) - bp ta (pf 11)) + 3) 130) ∧ (FsI (tf 6).toInt (pf' 13).toInt na')) (fun ps => ∃ (pf' : Nat → Int32) (na' : Nat → Nat → Int32) (ma' : Nat → Nat → Int32) (wa' : Nat → Nat → Int32), ps = [wdP cs h r g tf ta pf' na' ma' wa' cf ca ef ea xf xa] ∧ 0 ≤ (pf' 11).toInt ∧ (pf' 11).toInt + 1 ≤ (tf 6).toInt) := by
  refine th_enter (by decide) (Nat.le_of_ble_eq_true rfl) ?_
  intro p e s m below meth c A ls hAe S hr hlk hnm hA hT hX hw hl hne hadm
  have hl : lv_has ls 4 [(0, .ref h)] := hl
  have hX : (fun A U H => (oN A U H) ∧ (oP A g U H)) A s s.heap := by rw [hAe]; exact hX
  obtain ⟨hN, hP⟩ := hX
  have hZ := hP.1
  have hF0 := hP.2.1
  have hfb : FrB (pf 13).toInt na ma na ma := FrB.rf
  have hfw : FrW (pf 26).toInt wa wa := FrW.rf
  have J7 : ∀ (n_7 : Nat) (pf_7 : Nat → Int32) (na_7 : Nat → Nat → Int32) (ma_7 : Nat → Nat → Int32) (wa_7 : Nat → Nat → Int32) (x7_1 x7_2 : Int32) (H : Heap) (locs : List Loc) (ls : Array Slot), ((pf 11).toInt + 1 ≤ (pf_7 11).toInt) → ((pf_7 11).toInt < (tf 6).toInt) → ((pf 13).toInt + 1 ≤ (pf_7 13).toInt) → ((pf_7 13).toInt - (pf 13).toInt ≤ (pf_7 11).toInt - (pf 11).toInt) → (bp ta (pf 11) + 1 ≤ bp ta (pf_7 11)) → ((pf_7 12).toInt = (pf 12).toInt) → ((pf_7 24).toInt = (pf 24).toInt) → ((pf_7 25).toInt = (pf 25).toInt) → ((pf_7 26).toInt = (pf 26).toInt) → (FrB (pf 13).toInt na ma na_7 ma_7) → (FrW (pf 26).toInt wa wa_7) → (RwR ta (tf 6).toInt na_7 ma_7 x7_1 x7_2 (pf 13).toInt (pf_7 13).toInt (3 * (bp ta (pf_7 11) - bp ta (pf 11)) + 3) 130) → (FsI (tf 6).toInt (pf_7 13).toInt na_7) → (tf 6).toInt - (pf_7 11).toInt < (n_7 : Int) → pw D A s.heap H locs [wdP cs h r g tf ta pf_7 na_7 ma_7 wa_7 cf ca ef ea xf xa] → lv_has ls 4 [(0, .ref h), (1, .int x7_1), (2, .int x7_2)] → W p l e { frames := (8 * lv + 24), cells := 1, slots := 6, locals := (220 * lv + 1120) } s m [.ref h].toArray below meth c H locs 0 0 (tx_MQ below (thQi D (va_A ([wdP cs h r g tf ta pf na ma wa cf ca ef ea xf xa] : List va_W).flatten s.heap.size) "java/lang/IllegalArgumentException" (fun v ps => ∃ (pf' : Nat → Int32) (na' : Nat → Nat → Int32) (ma' : Nat → Nat → Int32) (wa' : Nat → Nat → Int32), (ps = [wdP cs h r g tf ta pf' na' ma' wa' cf ca ef ea xf xa]) ∧ ((pf 11).toInt + 1 ≤ (pf' 11).toInt) ∧ ((pf' 11).toInt < (tf 6).toInt) ∧ ((pf 13).toInt + 1 ≤ (pf' 13).toInt) ∧ ((pf' 13).toInt - (pf 13).toInt ≤ (pf' 11).toInt - (pf 11).toInt) ∧ (bp ta (pf 11) + 1 ≤ bp ta (pf' 11)) ∧ ((pf' 12).toInt = (pf 12).toInt) ∧ ((pf' 24).toInt = (pf 24).toInt) ∧ ((pf' 25).toInt = (pf 25).toInt) ∧ ((pf' 26).toInt = (pf 26).toInt) ∧ (FrB (pf 13).toInt na ma na' ma') ∧ (FrW (pf 26).toInt wa wa') ∧ (RlR ta (tf 6).toInt na' ma' v (pf 13).toInt (pf' 13).toInt (3 * (bp ta (pf' 11) - bp ta (pf 11)) + 3) 130) ∧ (FsI (tf 6).toInt (pf' 13).toInt na')) (fun ps => ∃ (pf' : Nat → Int32) (na' : Nat → Nat → Int32) (ma' : Nat → Nat → Int32) (wa' : Nat → Nat → Int32), ps = [wdP cs h r g tf ta pf' na' ma' wa' cf ca ef ea xf xa] ∧ 0 ≤ (pf' 11).toInt ∧ (pf' 11).toInt + 1 ≤ (tf 6).toInt) s.heap.size (tot s.heap)) [.ref h].toArray s 1 6 A) (F0 m 7 ls []) := by
    intro  n_7
    induction n_7 with
    | zero =>
      intro pf_7 na_7 ma_7 wa_7 x7_1 x7_2 H locs ls k7_0 k7_1 k7_2 k7_3 k7_4 k7_5 k7_6 k7_7 k7_8 k7_9 k7_10 k7_11 k7_12 hm hw hl
      have lx7_1 := Int32.le_toInt x7_1
      have ux7_1 := Int32.toInt_lt x7_1
      have lx7_2 := Int32.le_toInt x7_2
      have ux7_2 := Int32.toInt_lt x7_2
      have hfb := k7_9
      have hfw := k7_10
      have hrw_x7_2 := k7_11
      have hn_hrw_x7_2 := hrw_x7_2.num
      have hfs := k7_12
      exact absurd hm (by first | with_reducible rfl | with_reducible assumption | omega)
    | succ n_7 ih7 =>
      intro pf_7 na_7 ma_7 wa_7 x7_1 x7_2 H locs ls k7_0 k7_1 k7_2 k7_3 k7_4 k7_5 k7_6 k7_7 k7_8 k7_9 k7_10 k7_11 k7_12 hm hw hl
      have lx7_1 := Int32.le_toInt x7_1
      have ux7_1 := Int32.toInt_lt x7_1
      have lx7_2 := Int32.le_toInt x7_2
      have ux7_2 := Int32.toInt_lt x7_2
      have hfb := k7_9
      have hfw := k7_10
      have hrw_x7_2 := k7_11
      have hn_hrw_x7_2 := hrw_x7_2.num
      have hfs := k7_12
      refine lv_aload_n S.x S.b d_Mpg_variables_7 rfl (lv_at hl 0 rfl) ?_
      obtain ⟨sk1, hRsk1, st2, sb3, hSsk1⟩ := oP_lit hP (k := 99) (tx := ",") (n := 1) (List.mem_of_getElem? (i := 41) rfl)
      refine va_ldcS S.x S.b S.own hRsk1 d_Mpg_variables_8 ?_
      refine px_calli (pr := []) (px_runV (As := [.ref sk1]) (rest := []) S (c_mp_takes l D cs sk1 1 h r g tf ta na_7 ma_7 wa_7 cf ca ef ea xf xa pf_7   (show 0 ≤ (pf_7 11).toInt from by first | exact oz_06d7f15a5c k7_0 g0 | omega) (show (pf_7 11).toInt < (tf 6).toInt from by first | exact k7_1 | omega) (show (tf 6).toInt ≤ 2049 from by first | exact g2 | omega) (show 1 ≤ 100 from by first | decide | omega) htk _) hT (pr := []) (pcs := [wdP cs h r g tf ta pf_7 na_7 ma_7 wa_7 cf ca ef ea xf xa]) hw (oX_call (P := (fun A U H => (oP A g U H) ∧ (StS A sk1 1 U H))) (pr := []) (oG_and oG_P oG_Q) hw hA ⟨hP, ⟨_, _, hSsk1⟩⟩) (px_recv hT hw 0 0 rfl rfl rfl) m12_6 m12_3 m12_5 ms_9_3 m1_21 q_Mpg_takes ⟨show 4 + 1 ≤ (8 * lv + 24) from by first | with_reducible rfl | with_reducible assumption | omega, show 8 + (3 + 11) + 160 ≤ (220 * lv + 1120) from by first | with_reducible rfl | with_reducible assumption | omega⟩ hl.1 rfl (Nat.le_of_ble_eq_true rfl) d_Mpg_variables_10 ⟨Nat.le_of_ble_eq_true rfl, Nat.le_of_ble_eq_true rfl⟩) hw hA (fun v7 p6 H locs hp6 hw => ?_)
      obtain ⟨pf5, rfl, e8, e9, e10, e11, e12, e13, e14, e15, e16⟩ := hp6
      have e8 := z_rng e8
      have e9 : (pf5 11).toInt = (pf_7 11).toInt + v7.toInt := e9
      have e10 : (pf5 11).toInt < (tf 6).toInt := e10
      have e11 : bp ta (pf_7 11) + v7.toInt ≤ bp ta (pf5 11) := e11
      have e12 : (pf5 12).toInt = (pf_7 12).toInt := e12
      have e13 : (pf5 13).toInt = (pf_7 13).toInt := e13
      have e14 : (pf5 24).toInt = (pf_7 24).toInt := e14
      have e15 : (pf5 25).toInt = (pf_7 25).toInt := e15
      have e16 : (pf5 26).toInt = (pf_7 26).toInt := e16
      have hw : pw D A s.heap H locs [wdP cs h r g tf ta pf5 na_7 ma_7 wa_7 cf ca ef ea xf xa] := hw
      have lv7 := Int32.le_toInt v7
      have uv7 := Int32.toInt_lt v7
      refine lv_if_eq (tgt := 33) S.x S.b d_Mpg_variables_13 (by decide) (fun c17 => ?_) (fun c17 => ?_)
      · have nc17 : v7.toInt = (0 : Int) := (i_eq (x := v7) (y := 0)).mp c17
        refine lv_iload_n S.x S.b d_Mpg_variables_33 rfl (lv_at hl 1 rfl) ?_
        exact th_iret (v := x7_1) S hr rfl hlk hAe hw (⟨pf5, na_7, ma_7, wa_7, rfl, (show (pf 11).toInt + 1 ≤ (pf5 11).toInt from by first | exact oz_3f453873c8 k7_0 e9 e8.1 | omega), (show (pf5 11).toInt < (tf 6).toInt from by first | exact e10 | omega), (show (pf 13).toInt + 1 ≤ (pf5 13).toInt from by first | exact oz_213e98d3f1 k7_2 e13 | omega), (show (pf5 13).toInt - (pf 13).toInt ≤ (pf5 11).toInt - (pf 11).toInt from by first | exact oz_1e32788057 k7_3 e9 e13 e8.1 | omega), (show bp ta (pf 11) + 1 ≤ bp ta (pf5 11) from by first | with_reducible rfl | with_reducible assumption | omega), (show (pf5 12).toInt = (pf 12).toInt from by first | exact oz_1687f4cc65 k7_5 e12 | omega), (show (pf5 24).toInt = (pf 24).toInt from by first | exact oz_1687f4cc65 k7_6 e14 | omega), (show (pf5 25).toInt = (pf 25).toInt from by first | exact oz_1687f4cc65 k7_7 e15 | omega), (show (pf5 26).toInt = (pf 26).toInt from by first | exact oz_1687f4cc65 k7_8 e16 | omega), (show FrB (pf 13).toInt na ma na_7 ma_7 from hfb), (show FrW (pf 26).toInt wa wa_7 from hfw), (show RlR ta (tf 6).toInt na_7 ma_7 x7_1 (pf 13).toInt (pf5 13).toInt (3 * (bp ta (pf5 11) - bp ta (pf 11)) + 3) 130 from ⟨_, (RwV.le hrw_x7_2 (by first | with_reducible rfl | with_reducible assumption | omega) (by first | with_reducible rfl | with_reducible assumption | omega) (by first | with_reducible rfl | with_reducible assumption | omega) (by first | with_reducible rfl | with_reducible assumption | omega))⟩), (show FsI (tf 6).toInt (pf5 13).toInt na_7 from (FsI.le hfs (by first | with_reducible rfl | with_reducible assumption | omega)))⟩) d_Mpg_variables_34
      · have nc17 : ¬ v7.toInt = (0 : Int) := mt (i_eq (x := v7) (y := 0)).mpr c17
        refine lv_aload_n S.x S.b d_Mpg_variables_16 rfl (lv_at hl 0 rfl) ?_
        refine th_calli (ps0 := [wdP cs h r g tf ta pf na ma wa cf ca ef ea xf xa]) (pr := []) (pcs := [wdP cs h r g tf ta pf5 na_7 ma_7 wa_7 cf ca ef ea xf xa]) (As := []) (rest := []) (c_mp_variable l D cs h r g tf ta cf ca ef ea xf xa pf5 na_7 ma_7 wa_7  lv (show 0 ≤ (pf5 11).toInt from by first | exact oz_4f7430b7f2 e9 k7_0 e8.1 g0 | omega) (show (pf5 11).toInt < (tf 6).toInt from by first | exact e10 | omega) (show (tf 6).toInt ≤ 2049 from by first | exact g2 | omega) (show 0 ≤ (pf5 12).toInt from by first | exact oz_9bcc310e9c e12 k7_5 g8 g7 | omega) (show (pf5 12).toInt ≤ 60 from by first | exact oz_d791cd839d e12 k7_5 g4 | omega) (show 0 ≤ (pf5 13).toInt from by first | exact oz_0cb63e6fad e13 k7_2 g5 | omega) (show (pf5 13).toInt ≤ (pf5 11).toInt + 10 from by first | exact oz_a8f84bca48 e9 e13 k7_3 e8.1 g6 | omega) (show 0 ≤ (pf5 26).toInt from by first | exact oz_e2fef14871 e16 k7_8 g7 | omega) (show (pf5 26).toInt ≤ (pf5 12).toInt from by first | exact oz_c9654dfc48 e12 e16 k7_5 k7_8 g8 | omega) (show 61 ≤ (pf5 12).toInt + (lv : Int) from by first | exact oz_5733b16367 g9 e12 k7_5 | omega) (show lv ≤ 61 from by first | exact g10 | omega) hlf htk (FsI.le (N' := (pf5 13).toInt) hfs (by first | with_reducible rfl | with_reducible assumption | omega))) S hT hw (oX_call (P := (fun A U H => (oN A U H) ∧ (oP A g U H))) (pr := []) (oG_and oG_N oG_P) hw hA ⟨hN, hP⟩) (px_recv hT hw 0 0 rfl rfl rfl) m12_113 m12_110 m12_112 ms_10_13 m1_21 q_Mpg_variable ⟨show (8 * lv + 23) + 1 ≤ (8 * lv + 24) from by first | with_reducible rfl | with_reducible assumption | omega, show 8 + (2 + 11) + (220 * lv + 1080) ≤ (220 * lv + 1120) from by first | with_reducible rfl | with_reducible assumption | omega⟩ hl.1 rfl (Nat.le_of_ble_eq_true rfl) d_Mpg_variables_17 ⟨Nat.le_of_ble_eq_true rfl, Nat.le_of_ble_eq_true rfl⟩ hne hlk hA hAe (fun o t h => Or.inr h) ?_ (fun v27 p26 H locs hp26 hw => ?_)
        · exact fun p1 H1 locs1 hp hw => by obtain ⟨pq1, pq2, pq3, pq4, rfl, hq1, hq2⟩ := hp; exact ⟨_, ⟨pq1, pq2, pq3, pq4, rfl, hq1, hq2⟩, hw⟩
        obtain ⟨pf22, na23, ma24, wa25, rfl, e28, e29, e30, e31, e32, e33, e34, e35, e36, e37, e38, e39, e40⟩ := hp26
        have e28 : (pf5 11).toInt + 1 ≤ (pf22 11).toInt := e28
        have e29 : (pf22 11).toInt < (tf 6).toInt := e29
        have e30 : (pf5 13).toInt + 1 ≤ (pf22 13).toInt := e30
        have e31 : (pf22 13).toInt - (pf5 13).toInt ≤ (pf22 11).toInt - (pf5 11).toInt := e31
        have e32 : bp ta (pf5 11) + 1 ≤ bp ta (pf22 11) := e32
        have e33 : (pf22 12).toInt = (pf5 12).toInt := e33
        have e34 : (pf22 24).toInt = (pf5 24).toInt := e34
        have e35 : (pf22 25).toInt = (pf5 25).toInt := e35
        have e36 : (pf22 26).toInt = (pf5 26).toInt := e36
        have e37 : FrB (pf5 13).toInt na_7 ma_7 na23 ma24 := e37
        have hrw_x7_2 := hrw_x7_2.ag fv_ok (FrB.ag e37 (by first | with_reducible rfl | with_reducible assumption | omega))
        have hfb := hfb.tr e37 (by first | with_reducible rfl | with_reducible assumption | omega)
        have e38 : FrW (pf5 26).toInt wa_7 wa25 := e38
        have hfw := hfw.tr e38 (by first | with_reducible rfl | with_reducible assumption | omega)
        have e39 : VlR ta (tf 6).toInt na23 ma24 v27 (pf5 13).toInt (pf22 13).toInt (3 * (bp ta (pf22 11) - bp ta (pf5 11)) + 3) 130 := e39
        have hv_v27 := e39
        have hn_hv_v27 := hv_v27.num fv_ok
        have e40 : FsI (tf 6).toInt (pf22 13).toInt na23 := e40
        have hfs := e40
        have hw : pw D A s.heap H locs [wdP cs h r g tf ta pf22 na23 ma24 wa25 cf ca ef ea xf xa] := hw
        have lv27 := Int32.le_toInt v27
        have uv27 := Int32.toInt_lt v27
        refine lv_istore_n (lv' := [(3, .int v27), (0, .ref h), (1, .int x7_1), (2, .int x7_2)]) S.x S.b d_Mpg_variables_20 rfl hl (by decide) rfl (fun ls hl => ?_)
        refine lv_aload_n S.x S.b d_Mpg_variables_21 rfl (lv_at hl 1 rfl) ?_
        refine px_get S k_Mpg hT hw 0 0 21 (v := .ref (r 21)) rfl rfl rfl (by decide) m10_7 d_Mpg_variables_22 ?_
        refine lv_iload_n S.x S.b d_Mpg_variables_25 rfl (lv_at hl 3 rfl) ?_
        refine lv_iload_n S.x S.b d_Mpg_variables_26 rfl (lv_at hl 0 rfl) ?_
        refine px_iast S hT hw 0 17 (n := 2100) (f := (na23 21)) (x := x7_2) (y := v27) rfl gp_21 (vp_in_iff.mpr (by constructor <;> omega)) d_Mpg_variables_27 (w' := wdP cs h r g tf ta pf22 (va_up na23 21 (upd (na23 21) x7_2.toNatClampNeg v27)) ma24 wa25 cf ca ef ea xf xa) (ps' := [wdP cs h r g tf ta pf22 (va_up na23 21 (upd (na23 21) x7_2.toNatClampNeg v27)) ma24 wa25 cf ca ef ea xf xa]) sp_21 rfl (fun H locs hw => ?_)
        obtain ⟨na41, hu_na41⟩ : ∃ y : Nat → Nat → Int32, y = va_up na23 21 (upd (na23 21) x7_2.toNatClampNeg v27) := ⟨_, rfl⟩
        have hw : pw D A s.heap _ _ [wdP cs h r g tf ta pf22 na41 ma24 wa25 cf ca ef ea xf xa] := (by rw [hu_na41]; exact hw)
        have hrw_v27 := row_s hrw_x7_2 (VlV.le hv_v27 (by first | with_reducible rfl | with_reducible assumption | omega) (Int.le_refl _) (Int.le_refl _) (by first | with_reducible rfl | with_reducible assumption | omega)) fv_ok (by first | with_reducible rfl | with_reducible assumption | omega) hu_na41
        have hn_hrw_v27 := hrw_v27.num
        have hf_21_x7_2 : na41 21 x7_2.toNatClampNeg = v27 := (by rw [hu_na41, va_up_s, pk_us])
        have hfs : FsI _ _ na41 := (by rw [hu_na41]; exact FsI.un hfs (by decide))
        have hfb : FrB (pf 13).toInt na ma na41 ma24 := (by rw [hu_na41]; exact FrB.un hfb (by first | with_reducible rfl | with_reducible assumption | omega) (by first | with_reducible rfl | with_reducible assumption | omega))
        refine lv_iload_n S.x S.b d_Mpg_variables_28 rfl (lv_at hl 0 rfl) ?_
        refine lv_istore_n (lv' := [(2, .int v27), (3, .int v27), (0, .ref h), (1, .int x7_1)]) S.x S.b d_Mpg_variables_29 rfl hl (by decide) rfl (fun ls hl => ?_)
        refine lv_goto (tgt := 7) S.x S.b d_Mpg_variables_30 (by decide) ?_
        exact ih7 pf22 na41 ma24 wa25 x7_1 v27 _ _ ls (show (pf 11).toInt + 1 ≤ (pf22 11).toInt from by first | exact oz_60a7c6baef k7_0 e28 e9 e8.1 | omega) (show (pf22 11).toInt < (tf 6).toInt from by first | exact e29 | omega) (show (pf 13).toInt + 1 ≤ (pf22 13).toInt from by first | exact oz_fab14cc7ba k7_2 e30 e13 | omega) (show (pf22 13).toInt - (pf 13).toInt ≤ (pf22 11).toInt - (pf 11).toInt from by first | exact oz_69e545e602 k7_3 e31 e9 e13 e8.1 | omega) (show bp ta (pf 11) + 1 ≤ bp ta (pf22 11) from by first | with_reducible rfl | with_reducible assumption | omega) (show (pf22 12).toInt = (pf 12).toInt from by first | exact oz_e13fc83238 k7_5 e33 e12 | omega) (show (pf22 24).toInt = (pf 24).toInt from by first | exact oz_e13fc83238 k7_6 e34 e14 | omega) (show (pf22 25).toInt = (pf 25).toInt from by first | exact oz_e13fc83238 k7_7 e35 e15 | omega) (show (pf22 26).toInt = (pf 26).toInt from by first | exact oz_e13fc83238 k7_8 e36 e16 | omega) (show FrB (pf 13).toInt na ma na41 ma24 from hfb) (show FrW (pf 26).toInt wa wa25 from hfw) (show RwR ta (tf 6).toInt na41 ma24 x7_1 v27 (pf 13).toInt (pf22 13).toInt (3 * (bp ta (pf22 11) - bp ta (pf 11)) + 3) 130 from (RwV.le hrw_v27 (by first | with_reducible rfl | with_reducible assumption | omega) (by first | with_reducible rfl | with_reducible assumption | omega) (by first | with_reducible rfl | with_reducible assumption | omega) (by first | with_reducible rfl | with_reducible assumption | omega))) (show FsI (tf 6).toInt (pf22 13).toInt na41 from (FsI.le hfs (by first | with_reducible rfl | with_reducible assumption | omega))) (show (tf 6).toInt - (pf22 11).toInt < (n_7 : Int) from by first | exact oz_4be6ec72e9 hm e28 e9 e8.1 | omega) hw (lv_sub hl [2, 3, 0] rfl)
  refine lv_aload_n S.x S.b d_Mpg_variables_0 rfl (lv_at hl 0 rfl) ?_
  refine th_calli (ps0 := [wdP cs h r g tf ta pf na ma wa cf ca ef ea xf xa]) (pr := []) (pcs := [wdP cs h r g tf ta pf na ma wa cf ca ef ea xf xa]) (As := []) (rest := []) (c_mp_variable l D cs h r g tf ta cf ca ef ea xf xa pf na ma wa  lv (show 0 ≤ (pf 11).toInt from by first | exact g0 | omega) (show (pf 11).toInt < (tf 6).toInt from by first | exact g1 | omega) (show (tf 6).toInt ≤ 2049 from by first | exact g2 | omega) (show 0 ≤ (pf 12).toInt from by first | exact g3 | omega) (show (pf 12).toInt ≤ 60 from by first | exact g4 | omega) (show 0 ≤ (pf 13).toInt from by first | exact g5 | omega) (show (pf 13).toInt ≤ (pf 11).toInt + 10 from by first | exact g6 | omega) (show 0 ≤ (pf 26).toInt from by first | exact g7 | omega) (show (pf 26).toInt ≤ (pf 12).toInt from by first | exact g8 | omega) (show 61 ≤ (pf 12).toInt + (lv : Int) from by first | exact g9 | omega) (show lv ≤ 61 from by first | exact g10 | omega) hlf htk (FsI.le (N' := (pf 13).toInt) hfs (by first | with_reducible rfl | with_reducible assumption | omega))) S hT hw (oX_call (P := (fun A U H => (oN A U H) ∧ (oP A g U H))) (pr := []) (oG_and oG_N oG_P) hw hA ⟨hN, hP⟩) (px_recv hT hw 0 0 rfl rfl rfl) m12_113 m12_110 m12_112 ms_10_13 m1_21 q_Mpg_variable ⟨show (8 * lv + 23) + 1 ≤ (8 * lv + 24) from by first | with_reducible rfl | with_reducible assumption | omega, show 8 + (2 + 11) + (220 * lv + 1080) ≤ (220 * lv + 1120) from by first | with_reducible rfl | with_reducible assumption | omega⟩ hl.1 rfl (Nat.le_of_ble_eq_true rfl) d_Mpg_variables_1 ⟨Nat.le_of_ble_eq_true rfl, Nat.le_of_ble_eq_true rfl⟩ hne hlk hA hAe (fun o t h => Or.inr h) ?_ (fun v51 p50 H locs hp50 hw => ?_)
  · exact fun p1 H1 locs1 hp hw => by obtain ⟨pq1, pq2, pq3, pq4, rfl, hq1, hq2⟩ := hp; exact ⟨_, ⟨pq1, pq2, pq3, pq4, rfl, hq1, hq2⟩, hw⟩
  obtain ⟨pf46, na47, ma48, wa49, rfl, e52, e53, e54, e55, e56, e57, e58, e59, e60, e61, e62, e63, e64⟩ := hp50
  have e52 : (pf 11).toInt + 1 ≤ (pf46 11).toInt := e52
  have e53 : (pf46 11).toInt < (tf 6).toInt := e53
  have e54 : (pf 13).toInt + 1 ≤ (pf46 13).toInt := e54
  have e55 : (pf46 13).toInt - (pf 13).toInt ≤ (pf46 11).toInt - (pf 11).toInt := e55
  have e56 : bp ta (pf 11) + 1 ≤ bp ta (pf46 11) := e56
  have e57 : (pf46 12).toInt = (pf 12).toInt := e57
  have e58 : (pf46 24).toInt = (pf 24).toInt := e58
  have e59 : (pf46 25).toInt = (pf 25).toInt := e59
  have e60 : (pf46 26).toInt = (pf 26).toInt := e60
  have e61 : FrB (pf 13).toInt na ma na47 ma48 := e61
  have hfb := hfb.tr e61 (by first | with_reducible rfl | with_reducible assumption | omega)
  have e62 : FrW (pf 26).toInt wa wa49 := e62
  have hfw := hfw.tr e62 (by first | with_reducible rfl | with_reducible assumption | omega)
  have e63 : VlR ta (tf 6).toInt na47 ma48 v51 (pf 13).toInt (pf46 13).toInt (3 * (bp ta (pf46 11) - bp ta (pf 11)) + 3) 130 := e63
  have hv_v51 := e63
  have hn_hv_v51 := hv_v51.num fv_ok
  have e64 : FsI (tf 6).toInt (pf46 13).toInt na47 := e64
  have hfs := e64
  have hw : pw D A s.heap H locs [wdP cs h r g tf ta pf46 na47 ma48 wa49 cf ca ef ea xf xa] := hw
  have lv51 := Int32.le_toInt v51
  have uv51 := Int32.toInt_lt v51
  refine lv_istore_n (lv' := [(1, .int v51), (0, .ref h)]) S.x S.b d_Mpg_variables_4 rfl hl (by decide) rfl (fun ls hl => ?_)
  refine lv_iload_n S.x S.b d_Mpg_variables_5 rfl (lv_at hl 0 rfl) ?_
  refine lv_istore_n (lv' := [(2, .int v51), (1, .int v51), (0, .ref h)]) S.x S.b d_Mpg_variables_6 rfl hl (by decide) rfl (fun ls hl => ?_)
  exact J7 (((tf 6).toInt - (pf46 11).toInt).toNat + 1) pf46 na47 ma48 wa49 v51 v51 _ _ ls (show (pf 11).toInt + 1 ≤ (pf46 11).toInt from by first | exact e52 | omega) (show (pf46 11).toInt < (tf 6).toInt from by first | exact e53 | omega) (show (pf 13).toInt + 1 ≤ (pf46 13).toInt from by first | exact e54 | omega) (show (pf46 13).toInt - (pf 13).toInt ≤ (pf46 11).toInt - (pf 11).toInt from by first | exact e55 | omega) (show bp ta (pf 11) + 1 ≤ bp ta (pf46 11) from by first | exact e56 | omega) (show (pf46 12).toInt = (pf 12).toInt from by first | exact e57 | omega) (show (pf46 24).toInt = (pf 24).toInt from by first | exact e58 | omega) (show (pf46 25).toInt = (pf 25).toInt from by first | exact e59 | omega) (show (pf46 26).toInt = (pf 26).toInt from by first | exact e60 | omega) (show FrB (pf 13).toInt na ma na47 ma48 from hfb) (show FrW (pf 26).toInt wa wa49 from hfw) (show RwR ta (tf 6).toInt na47 ma48 v51 v51 (pf 13).toInt (pf46 13).toInt (3 * (bp ta (pf46 11) - bp ta (pf 11)) + 3) 130 from (RwV.le (row_0 hv_v51 fv_ok) (by first | with_reducible rfl | with_reducible assumption | omega) (by first | with_reducible rfl | with_reducible assumption | omega) (by first | with_reducible rfl | with_reducible assumption | omega) (by first | with_reducible rfl | with_reducible assumption | omega))) (show FsI (tf 6).toInt (pf46 13).toInt na47 from (FsI.le hfs (by first | with_reducible rfl | with_reducible assumption | omega))) (show (tf 6).toInt - (pf46 11).toInt < (((((tf 6).toInt - (pf46 11).toInt).toNat + 1 : Nat) : Int) : Int) from by first | exact oz_natlt | omega) hw (lv_sub hl [2, 1, 0] rfl)
abbrev b_Mpg_declaration : ByteArray := prog_16_method_47_code
def y_Mpg_declaration : MethodName := ⟨"HomeSystemModel$Program", "declaration", "()I"⟩
theorem d_Mpg_declaration_0 : decode b_Mpg_declaration 0 = .ok (.aload_n 0, 1) := by decide +kernel
theorem d_Mpg_declaration_1 : decode b_Mpg_declaration 1 = .ok (.bipush 23, 2) := by decide +kernel
theorem d_Mpg_declaration_3 : decode b_Mpg_declaration 3 = .ok (.aload_n 0, 1) := by decide +kernel
theorem d_Mpg_declaration_4 : decode b_Mpg_declaration 4 = .ok (.getfield 360, 3) := by decide +kernel
theorem d_Mpg_declaration_7 : decode b_Mpg_declaration 7 = .ok (.invokevirtual 406, 3) := by decide +kernel
theorem d_Mpg_declaration_10 : decode b_Mpg_declaration 10 = .ok (.istore_n 1, 1) := by decide +kernel
theorem d_Mpg_declaration_11 : decode b_Mpg_declaration 11 = .ok (.aload_n 0, 1) := by decide +kernel
theorem d_Mpg_declaration_12 : decode b_Mpg_declaration 12 = .ok (.getfield 231, 3) := by decide +kernel
theorem d_Mpg_declaration_15 : decode b_Mpg_declaration 15 = .ok (.iload_n 1, 1) := by decide +kernel
theorem d_Mpg_declaration_16 : decode b_Mpg_declaration 16 = .ok (.aload_n 0, 1) := by decide +kernel
theorem d_Mpg_declaration_17 : decode b_Mpg_declaration 17 = .ok (.getfield 204, 3) := by decide +kernel
theorem d_Mpg_declaration_20 : decode b_Mpg_declaration 20 = .ok (.aload_n 0, 1) := by decide +kernel
theorem d_Mpg_declaration_21 : decode b_Mpg_declaration 21 = .ok (.getfield 360, 3) := by decide +kernel
theorem d_Mpg_declaration_24 : decode b_Mpg_declaration 24 = .ok (.iaload, 1) := by decide +kernel
theorem d_Mpg_declaration_25 : decode b_Mpg_declaration 25 = .ok (.iastore, 1) := by decide +kernel
theorem d_Mpg_declaration_26 : decode b_Mpg_declaration 26 = .ok (.aload_n 0, 1) := by decide +kernel
theorem d_Mpg_declaration_27 : decode b_Mpg_declaration 27 = .ok (.dup, 1) := by decide +kernel
theorem d_Mpg_declaration_28 : decode b_Mpg_declaration 28 = .ok (.getfield 360, 3) := by decide +kernel
theorem d_Mpg_declaration_31 : decode b_Mpg_declaration 31 = .ok (.iconst 1, 1) := by decide +kernel
theorem d_Mpg_declaration_32 : decode b_Mpg_declaration 32 = .ok (.iadd, 1) := by decide +kernel
theorem d_Mpg_declaration_33 : decode b_Mpg_declaration 33 = .ok (.putfield 360, 3) := by decide +kernel
theorem d_Mpg_declaration_36 : decode b_Mpg_declaration 36 = .ok (.aload_n 0, 1) := by decide +kernel
theorem d_Mpg_declaration_37 : decode b_Mpg_declaration 37 = .ok (.getfield 216, 3) := by decide +kernel
theorem d_Mpg_declaration_40 : decode b_Mpg_declaration 40 = .ok (.iload_n 1, 1) := by decide +kernel
theorem d_Mpg_declaration_41 : decode b_Mpg_declaration 41 = .ok (.aload_n 0, 1) := by decide +kernel
theorem d_Mpg_declaration_42 : decode b_Mpg_declaration 42 = .ok (.invokevirtual 460, 3) := by decide +kernel
theorem d_Mpg_declaration_45 : decode b_Mpg_declaration 45 = .ok (.iastore, 1) := by decide +kernel
theorem d_Mpg_declaration_46 : decode b_Mpg_declaration 46 = .ok (.aload_n 0, 1) := by decide +kernel
theorem d_Mpg_declaration_47 : decode b_Mpg_declaration 47 = .ok (.ldc 101, 2) := by decide +kernel
theorem d_Mpg_declaration_49 : decode b_Mpg_declaration 49 = .ok (.invokevirtual 386, 3) := by decide +kernel
theorem d_Mpg_declaration_52 : decode b_Mpg_declaration 52 = .ok (.iload_n 1, 1) := by decide +kernel
theorem d_Mpg_declaration_53 : decode b_Mpg_declaration 53 = .ok (.ireturn, 1) := by decide +kernel
theorem q_Mpg_declaration : px_y y_Mpg_declaration 0 := by unfold px_y; decide +kernel
set_option maxHeartbeats 4000000 in
set_option maxRecDepth 100000 in
theorem c_mp_declaration (l : Launch) (D : va_G) (cs : Nat → ClassId) (h : Nat) (r : Nat → Nat) (g : Nat → Nat → Option Nat) (tf : Nat → Int32) (ta : Nat → Nat → Int32) (cf : Nat → Int32) (ca : Nat → Nat → Int32) (ef : Nat → Int32) (ea : Nat → Nat → Int32) (xf : Nat → Int32) (xa : Nat → Nat → Int32) (pf : Nat → Int32) (na : Nat → Nat → Int32) (ma : Nat → Nat → Int32) (wa : Nat → Nat → Int32) (lv : Nat) (g0 : 0 ≤ (pf 11).toInt) (g1 : (pf 11).toInt < (tf 6).toInt) (g2 : (tf 6).toInt ≤ 2049) (g3 : 0 ≤ (pf 12).toInt) (g4 : (pf 12).toInt ≤ 60) (g5 : 0 ≤ (pf 13).toInt) (g6 : (pf 13).toInt ≤ (pf 11).toInt + 10) (g7 : 0 ≤ (pf 26).toInt) (g8 : (pf 26).toInt ≤ (pf 12).toInt) (g9 : 61 ≤ (pf 12).toInt + (lv : Int)) (g10 : lv ≤ 61) (g11 : (pf 11).toInt + 1 < (tf 6).toInt) (g12 : so ta (pf 11) = 2) (g13 : 0 ≤ wh ta (pf 11)) (g14 : wh ta (pf 11) ≤ 1) (hlf : l.flags = pinnedFlags ++ [noTraceFlag]) (htk : TkI tf ta) (hfs : FsI (tf 6).toInt (pf 13).toInt na) : ThI l y_Mpg_declaration b_Mpg_declaration 2 (.int) D cs (8 * lv + 25) (220 * lv + 1160) [.ref h] [wdP cs h r g tf ta pf na ma wa cf ca ef ea xf xa] (oX (fun A U H => (oN A U H) ∧ (oP A g U H)) [wdP cs h r g tf ta pf na ma wa cf ca ef ea xf xa]) "java/lang/IllegalArgumentException" (fun v ps => ∃ (pf' : Nat → Int32) (na' : Nat → Nat → Int32) (ma' : Nat → Nat → Int32) (wa' : Nat → Nat → Int32), (ps = [wdP cs h r g tf ta pf' na' ma' wa' cf ca ef ea xf xa]) ∧ ((pf 11).toInt + 1 ≤ (pf' 11).toInt) ∧ ((pf' 11).toInt < (tf 6).toInt) ∧ ((pf 13).toInt + 1 ≤ (pf' 13).toInt) ∧ ((pf' 13).toInt - (pf 13).toInt ≤ (pf' 11).toInt - (pf 11).toInt) ∧ (bp ta (pf 11) + 1 ≤ bp ta (pf' 11)) ∧ ((pf' 12).toInt = (pf 12).toInt) ∧ ((pf' 24).toInt = (pf 24).toInt) ∧ ((pf' 25).toInt = (pf 25).toInt) ∧ ((pf' 26).toInt = (pf 26).toInt) ∧ (FrB (pf 13).toInt na ma na' ma') ∧ (FrW (pf 26).toInt wa wa') ∧ (VlS ta (tf 6).toInt na' ma' v (pf 13).toInt (pf' 13).toInt (3 * (bp ta (pf' 11) - bp ta (pf 11))) (200 - (pf 12).toInt)) ∧ (DcN na' v) ∧ (FsI (tf 6).toInt (pf' 13).toInt na')) (fun ps => ∃ (pf' : Nat → Int32) (na' : Nat → Nat → Int32) (ma' : Nat → Nat → Int32) (wa' : Nat → Nat → Int32), ps = [wdP cs h r g tf ta pf' na' ma' wa' cf ca ef ea xf xa] ∧ 0 ≤ (pf' 11).toInt ∧ (pf' 11).toInt + 1 ≤ (tf 6).toInt) := by
  refine th_enter (by decide) (Nat.le_of_ble_eq_true rfl) ?_
  intro p e s m below meth c A ls hAe S hr hlk hnm hA hT hX hw hl hne hadm
  have hl : lv_has ls 2 [(0, .ref h)] := hl
  have cst1 : (1 : Int32).toInt = 1 := rfl
  have cst23 : (23 : Int32).toInt = 23 := rfl
  have hX : (fun A U H => (oN A U H) ∧ (oP A g U H)) A s s.heap := by rw [hAe]; exact hX
  obtain ⟨hN, hP⟩ := hX
  have hZ := hP.1
  have hF0 := hP.2.1
  have hfb : FrB (pf 13).toInt na ma na ma := FrB.rf
  have hfw : FrW (pf 26).toInt wa wa := FrW.rf
  refine lv_aload_n S.x S.b d_Mpg_declaration_0 rfl (lv_at hl 0 rfl) ?_
  refine lv_bipush (v := 23) S.x S.b d_Mpg_declaration_1 (by decide) ?_
  refine lv_aload_n S.x S.b d_Mpg_declaration_3 rfl (lv_at hl 0 rfl) ?_
  refine px_get S k_Mpg hT hw 0 0 11 (v := .int (pf 11)) rfl rfl rfl (by decide) m9_235 d_Mpg_declaration_4 ?_
  refine px_calli (pr := []) (px_runV (As := [.int 23, .int (pf 11)]) (rest := []) S (c_mp_make l D cs h r g tf ta wa cf ca ef ea xf xa pf na ma 23 (pf 11)  (show 0 ≤ (pf 13).toInt from by first | exact g5 | omega) (show (pf 13).toInt < 2100 from by first | exact oz_1fa6c9b1b7 g6 g11 g2 | omega) _) hT (pr := []) (pcs := [wdP cs h r g tf ta pf na ma wa cf ca ef ea xf xa]) hw px_X.tt (px_recv hT hw 0 0 rfl rfl rfl) m11_209 m11_206 m11_208 ms_8_12 m1_21 q_Mpg_make ⟨show 0 + 1 ≤ (8 * lv + 25) from by first | with_reducible rfl | with_reducible assumption | omega, show 8 + (3 + 11) + 0 ≤ (220 * lv + 1160) from by first | with_reducible rfl | with_reducible assumption | omega⟩ hl.1 rfl (Nat.le_of_ble_eq_true rfl) d_Mpg_declaration_7 ⟨Nat.le_of_ble_eq_true rfl, Nat.le_of_ble_eq_true rfl⟩) hw hA (fun v8 p7 H locs hp7 hw => ?_)
  obtain ⟨pf4, na5, ma6, rfl, e9, e10, e11, e12, e13, e14, e15, e16⟩ := hp7
  have e9 : v8.toInt = (pf 13).toInt := e9
  have e10 : (pf4 13).toInt = (pf 13).toInt + 1 := e10
  have e11 : (pf4 11).toInt = (pf 11).toInt := e11
  have e12 : (pf4 12).toInt = (pf 12).toInt := e12
  have e13 : (pf4 24).toInt = (pf 24).toInt := e13
  have e14 : (pf4 25).toInt = (pf 25).toInt := e14
  have e15 : (pf4 26).toInt = (pf 26).toInt := e15
  have e16 : MkN na ma na5 ma6 v8 (23 : Int32) (pf 11) := e16
  obtain ⟨qb171, qb172, qb173, qb174⟩ := tk_eq (ta := ta) (x := (pf4 11)) (y := (pf 11)) (by first | with_reducible rfl | with_reducible assumption | omega)
  have hmk_v8 := e16
  have hfm_v8 := MkN.frb (b := v8.toInt) hmk_v8 (by first | with_reducible rfl | with_reducible assumption | omega) (by first | with_reducible rfl | with_reducible assumption | omega)
  have hfs := FsI.mk hfs hmk_v8 (by first | with_reducible rfl | with_reducible assumption | omega) (by first | with_reducible rfl | with_reducible assumption | omega) (by first | with_reducible rfl | with_reducible assumption | omega) (by first | with_reducible rfl | with_reducible assumption | omega)
  have hfb := hfb.tr hfm_v8 (by first | with_reducible rfl | with_reducible assumption | omega)
  have hf_14_v8 := hmk_v8.2.1 (by decide) (by decide)
  have hf_15_v8 := hmk_v8.2.2.1
  have hf_17_v8 := hmk_v8.2.2.2.2.1
  have hf_21_v8 := hmk_v8.2.2.2.2.2.2.2.2.1
  clear hmk_v8 hfm_v8
  have hw : pw D A s.heap H locs [wdP cs h r g tf ta pf4 na5 ma6 wa cf ca ef ea xf xa] := hw
  have lv8 := Int32.le_toInt v8
  have uv8 := Int32.toInt_lt v8
  refine lv_istore_n (lv' := [(1, .int v8), (0, .ref h)]) S.x S.b d_Mpg_declaration_10 rfl hl (by decide) rfl (fun ls hl => ?_)
  refine lv_aload_n S.x S.b d_Mpg_declaration_11 rfl (lv_at hl 1 rfl) ?_
  refine px_get S k_Mpg hT hw 0 0 22 (v := .ref (r 22)) rfl rfl rfl (by decide) m10_9 d_Mpg_declaration_12 ?_
  refine lv_iload_n S.x S.b d_Mpg_declaration_15 rfl (lv_at hl 0 rfl) ?_
  refine lv_aload_n S.x S.b d_Mpg_declaration_16 rfl (lv_at hl 1 rfl) ?_
  refine px_get S k_Mpg hT hw 0 0 10 (v := .ref (r 10)) rfl rfl rfl (by decide) m9_234 d_Mpg_declaration_17 ?_
  refine lv_aload_n S.x S.b d_Mpg_declaration_20 rfl (lv_at hl 1 rfl) ?_
  refine px_get S k_Mpg hT hw 0 0 11 (v := .int (pf4 11)) rfl rfl rfl (by decide) m9_235 d_Mpg_declaration_21 ?_
  refine px_iald S hT hw 0 9 (n := 2060) (f := (ta 10)) rfl gp_10 (x := (pf4 11)) (vp_in_iff.mpr (by first | exact oz_935cf6b5f1 e11 g0 g11 g2 | (constructor <;> omega))) d_Mpg_declaration_24 ?_
  refine lv_topi (fun z18 ez18 => ?_)
  have lz18 := Int32.le_toInt z18
  have uz18 := Int32.toInt_lt z18
  have rz18 : z18.toInt = wh ta (pf4 11) := by rw [ez18]; rfl
  refine px_iast S hT hw 0 18 (n := 2100) (f := (ma6 22)) (x := v8) (y := z18) rfl gp_22 (vp_in_iff.mpr (by constructor <;> omega)) d_Mpg_declaration_25 (w' := wdP cs h r g tf ta pf4 na5 (va_up ma6 22 (upd (ma6 22) v8.toNatClampNeg z18)) wa cf ca ef ea xf xa) (ps' := [wdP cs h r g tf ta pf4 na5 (va_up ma6 22 (upd (ma6 22) v8.toNatClampNeg z18)) wa cf ca ef ea xf xa]) sp_22 rfl (fun H locs hw => ?_)
  obtain ⟨ma19, hu_ma19⟩ : ∃ y : Nat → Nat → Int32, y = va_up ma6 22 (upd (ma6 22) v8.toNatClampNeg z18) := ⟨_, rfl⟩
  have hw : pw D A s.heap _ _ [wdP cs h r g tf ta pf4 na5 ma19 wa cf ca ef ea xf xa] := (by rw [hu_ma19]; exact hw)
  have hf_22_v8 : ma19 22 v8.toNatClampNeg = z18 := (by rw [hu_ma19, va_up_s, pk_us])
  have hfb : FrB (pf 13).toInt na ma na5 ma19 := (by rw [hu_ma19]; exact FrB.um hfb (by first | with_reducible rfl | with_reducible assumption | omega) (by first | with_reducible rfl | with_reducible assumption | omega))
  refine lv_aload_n S.x S.b d_Mpg_declaration_26 rfl (lv_at hl 1 rfl) ?_
  refine lv_dup S.x S.b d_Mpg_declaration_27 rfl ?_
  refine px_get S k_Mpg hT hw 0 0 11 (v := .int (pf4 11)) rfl rfl rfl (by decide) m9_235 d_Mpg_declaration_28 ?_
  refine lv_iconst (v := 1) S.x S.b d_Mpg_declaration_31 (by decide) ?_
  refine lv_iadd S.x S.b d_Mpg_declaration_32 ?_
  have lr20 := Int32.le_toInt (pf4 11)
  have ur20 := Int32.toInt_lt (pf4 11)
  refine lv_topi (fun z21 ez21 => ?_)
  have tz21 : z21.toInt = ((pf4 11).toInt + (1 : Int) + 2147483648) % 4294967296 - 2147483648 := by rw [ez21]; exact i_add (pf4 11) 1
  have lz21 := Int32.le_toInt z21
  have uz21 := Int32.toInt_lt z21
  try replace tz21 : z21.toInt = (pf4 11).toInt + (1 : Int) := by omega
  have hnx32 := tk_n htk (x := (pf4 11)) (y := z21) (by first | with_reducible rfl | with_reducible assumption | omega) (by first | with_reducible rfl | with_reducible assumption | omega) (by first | with_reducible rfl | with_reducible assumption | omega)
  refine px_put S k_Mpg hT hw 0 0 11 rfl rfl (by decide) m9_235 rfl rfl rfl (Nat.le_of_ble_eq_true rfl) d_Mpg_declaration_33 (w' := wdP cs h r g tf ta (upd pf4 11 z21) na5 ma19 wa cf ca ef ea xf xa) (ps' := [wdP cs h r g tf ta (upd pf4 11 z21) na5 ma19 wa cf ca ef ea xf xa]) rfl rfl (fun H locs hw => ?_)
  refine lv_aload_n S.x S.b d_Mpg_declaration_36 rfl (lv_at hl 1 rfl) ?_
  refine px_get S k_Mpg hT hw 0 0 17 (v := .ref (r 17)) rfl rfl rfl (by decide) m10_1 d_Mpg_declaration_37 ?_
  refine lv_iload_n S.x S.b d_Mpg_declaration_40 rfl (lv_at hl 0 rfl) ?_
  refine lv_aload_n S.x S.b d_Mpg_declaration_41 rfl (lv_at hl 1 rfl) ?_
  refine th_calli (ps0 := [wdP cs h r g tf ta pf na ma wa cf ca ef ea xf xa]) (pr := []) (pcs := [wdP cs h r g tf ta (upd pf4 11 z21) na5 ma19 wa cf ca ef ea xf xa]) (As := []) (rest := [.int v8, .ref (r 17)]) (c_mp_variables l D cs h r g tf ta cf ca ef ea xf xa (upd pf4 11 z21) na5 ma19 wa  lv (show 0 ≤ z21.toInt from by first | exact oz_9bc226aaf4 tz21 e11 g0 | omega) (show z21.toInt < (tf 6).toInt from by first | exact oz_93bebfa6cb g11 tz21 e11 | omega) (show (tf 6).toInt ≤ 2049 from by first | exact g2 | omega) (show 0 ≤ (pf4 12).toInt from by first | exact oz_f3ebed1ad0 e12 g3 | omega) (show (pf4 12).toInt ≤ 60 from by first | exact oz_a3db38fa3c e12 g4 | omega) (show 0 ≤ (pf4 13).toInt from by first | exact oz_ae613611c0 e10 g5 | omega) (show (pf4 13).toInt ≤ z21.toInt + 10 from by first | exact oz_49be2cf98c e10 tz21 g6 e11 | omega) (show 0 ≤ (pf4 26).toInt from by first | exact oz_f3ebed1ad0 e15 g7 | omega) (show (pf4 26).toInt ≤ (pf4 12).toInt from by first | exact oz_508dc9c651 e12 e15 g8 | omega) (show 61 ≤ (pf4 12).toInt + (lv : Int) from by first | exact oz_13a538c620 g9 e12 | omega) (show lv ≤ 61 from by first | exact g10 | omega) hlf htk (FsI.le (N' := (pf4 13).toInt) hfs (by first | with_reducible rfl | with_reducible assumption | omega))) S hT hw (oX_call (P := (fun A U H => (oN A U H) ∧ (oP A g U H))) (pr := []) (oG_and oG_N oG_P) hw hA ⟨hN, hP⟩) (px_recv hT hw 0 0 rfl rfl rfl) m12_109 m12_106 m12_108 ms_10_12 m1_21 q_Mpg_variables ⟨show (8 * lv + 24) + 1 ≤ (8 * lv + 25) from by first | with_reducible rfl | with_reducible assumption | omega, show 8 + (4 + 11) + (220 * lv + 1120) ≤ (220 * lv + 1160) from by first | with_reducible rfl | with_reducible assumption | omega⟩ hl.1 rfl (Nat.le_of_ble_eq_true rfl) d_Mpg_declaration_42 ⟨Nat.le_of_ble_eq_true rfl, Nat.le_of_ble_eq_true rfl⟩ hne hlk hA hAe (fun o t h => Or.inr h) ?_ (fun v31 p30 H locs hp30 hw => ?_)
  · exact fun p1 H1 locs1 hp hw => by obtain ⟨pq1, pq2, pq3, pq4, rfl, hq1, hq2⟩ := hp; exact ⟨_, ⟨pq1, pq2, pq3, pq4, rfl, hq1, hq2⟩, hw⟩
  obtain ⟨pf26, na27, ma28, wa29, rfl, e32, e33, e34, e35, e36, e37, e38, e39, e40, e41, e42, e43, e44⟩ := hp30
  have e32 : z21.toInt + 1 ≤ (pf26 11).toInt := e32
  have e33 : (pf26 11).toInt < (tf 6).toInt := e33
  have e34 : (pf4 13).toInt + 1 ≤ (pf26 13).toInt := e34
  have e35 : (pf26 13).toInt - (pf4 13).toInt ≤ (pf26 11).toInt - z21.toInt := e35
  have e36 : bp ta z21 + 1 ≤ bp ta (pf26 11) := e36
  have e37 : (pf26 12).toInt = (pf4 12).toInt := e37
  have e38 : (pf26 24).toInt = (pf4 24).toInt := e38
  have e39 : (pf26 25).toInt = (pf4 25).toInt := e39
  have e40 : (pf26 26).toInt = (pf4 26).toInt := e40
  have e41 : FrB (pf4 13).toInt na5 ma19 na27 ma28 := e41
  have hf_14_v8 := (fb_n e41 (by first | with_reducible rfl | with_reducible assumption | omega) (by first | with_reducible rfl | with_reducible assumption | omega)).trans hf_14_v8
  have hf_15_v8 := (fb_n e41 (by first | with_reducible rfl | with_reducible assumption | omega) (by first | with_reducible rfl | with_reducible assumption | omega)).trans hf_15_v8
  have hf_17_v8 := (fb_n e41 (by first | with_reducible rfl | with_reducible assumption | omega) (by first | with_reducible rfl | with_reducible assumption | omega)).trans hf_17_v8
  have hf_21_v8 := (fb_n e41 (by first | with_reducible rfl | with_reducible assumption | omega) (by first | with_reducible rfl | with_reducible assumption | omega)).trans hf_21_v8
  have hf_22_v8 := (fb_m e41 (by first | with_reducible rfl | with_reducible assumption | omega) (by first | with_reducible rfl | with_reducible assumption | omega)).trans hf_22_v8
  have hfb := hfb.tr e41 (by first | with_reducible rfl | with_reducible assumption | omega)
  have e42 : FrW (pf4 26).toInt wa wa29 := e42
  have hfw := hfw.tr e42 (by first | with_reducible rfl | with_reducible assumption | omega)
  have e43 : RlR ta (tf 6).toInt na27 ma28 v31 (pf4 13).toInt (pf26 13).toInt (3 * (bp ta (pf26 11) - bp ta z21) + 3) 130 := e43
  have hl_v31 := e43
  have hn_hl_v31 := hl_v31.num
  have e44 : FsI (tf 6).toInt (pf26 13).toInt na27 := e44
  have hfs := e44
  have hw : pw D A s.heap H locs [wdP cs h r g tf ta pf26 na27 ma28 wa29 cf ca ef ea xf xa] := hw
  have lv31 := Int32.le_toInt v31
  have uv31 := Int32.toInt_lt v31
  refine px_iast S hT hw 0 13 (n := 2100) (f := (na27 17)) (x := v8) (y := v31) rfl gp_17 (vp_in_iff.mpr (by constructor <;> omega)) d_Mpg_declaration_45 (w' := wdP cs h r g tf ta pf26 (va_up na27 17 (upd (na27 17) v8.toNatClampNeg v31)) ma28 wa29 cf ca ef ea xf xa) (ps' := [wdP cs h r g tf ta pf26 (va_up na27 17 (upd (na27 17) v8.toNatClampNeg v31)) ma28 wa29 cf ca ef ea xf xa]) sp_17 rfl (fun H locs hw => ?_)
  obtain ⟨na45, hu_na45⟩ : ∃ y : Nat → Nat → Int32, y = va_up na27 17 (upd (na27 17) v8.toNatClampNeg v31) := ⟨_, rfl⟩
  have hw : pw D A s.heap _ _ [wdP cs h r g tf ta pf26 na45 ma28 wa29 cf ca ef ea xf xa] := (by rw [hu_na45]; exact hw)
  have hl_v31 := hl_v31.ag fv_ok (ag_n hu_na45 (by first | with_reducible rfl | with_reducible assumption | omega) (by first | with_reducible rfl | with_reducible assumption | omega))
  have hf_14_v8 := (fl_n hu_na45 (by decide)).trans hf_14_v8
  have hf_15_v8 := (fl_n hu_na45 (by decide)).trans hf_15_v8
  have hf_21_v8 := (fl_n hu_na45 (by decide)).trans hf_21_v8
  have hf_17_v8 : na45 17 v8.toNatClampNeg = v31 := (by rw [hu_na45, va_up_s, pk_us])
  have hfs : FsI _ _ na45 := (by rw [hu_na45]; exact FsI.un hfs (by decide))
  have hfb : FrB (pf 13).toInt na ma na45 ma28 := (by rw [hu_na45]; exact FrB.un hfb (by first | with_reducible rfl | with_reducible assumption | omega) (by first | with_reducible rfl | with_reducible assumption | omega))
  refine lv_aload_n S.x S.b d_Mpg_declaration_46 rfl (lv_at hl 1 rfl) ?_
  obtain ⟨sk46, hRsk46, st47, sb48, hSsk46⟩ := oP_lit hP (k := 101) (tx := ";") (n := 1) (List.mem_of_getElem? (i := 42) rfl)
  refine va_ldcS S.x S.b S.own hRsk46 d_Mpg_declaration_47 ?_
  refine th_callv (ps0 := [wdP cs h r g tf ta pf na ma wa cf ca ef ea xf xa]) (pr := []) (pcs := [wdP cs h r g tf ta pf26 na45 ma28 wa29 cf ca ef ea xf xa]) (As := [.ref sk46]) (rest := []) (c_mp_take l D cs sk46 1 h r g tf ta na45 ma28 wa29 cf ca ef ea xf xa pf26   (show 0 ≤ (pf26 11).toInt from by first | exact oz_5ec5cff5c7 e32 tz21 g0 e11 | omega) (show (pf26 11).toInt < (tf 6).toInt from by first | exact e33 | omega) (show (tf 6).toInt ≤ 2049 from by first | exact g2 | omega) (show 1 ≤ 100 from by first | decide | omega) hlf htk) S hT hw (oX_call (P := (fun A U H => (oN A U H) ∧ (oP A g U H) ∧ (StS A sk46 1 U H))) (pr := []) (oG_and oG_N (oG_and oG_P oG_Q)) hw hA ⟨hN, hP, ⟨_, _, hSsk46⟩⟩) (px_recv hT hw 0 0 rfl rfl rfl) m12_57 m12_54 m12_56 ms_9_15 m1_21 q_Mpg_take ⟨show 7 + 1 ≤ (8 * lv + 25) from by first | with_reducible rfl | with_reducible assumption | omega, show 8 + (2 + 11) + 230 ≤ (220 * lv + 1160) from by first | with_reducible rfl | with_reducible assumption | omega⟩ hl.1 rfl (Nat.le_of_ble_eq_true rfl) d_Mpg_declaration_49 ⟨Nat.le_of_ble_eq_true rfl, Nat.le_of_ble_eq_true rfl⟩ hne hlk hA hAe (fun o t h => Or.inr h) ?_ (fun p51 H locs hp51 hw => ?_)
  · exact fun p1 H1 locs1 hp hw => by obtain ⟨pq1, pq2, pq3, pq4, rfl, hq1, hq2⟩ := hp; exact ⟨_, ⟨pq1, pq2, pq3, pq4, rfl, hq1, hq2⟩, hw⟩
  obtain ⟨pf50, rfl, e53, e54, e55, e56, e57, e58, e59, e60⟩ := hp51
  have e53 : (pf50 11).toInt = (pf26 11).toInt + 1 := e53
  have e54 : (pf50 11).toInt < (tf 6).toInt := e54
  have e55 : bp ta (pf26 11) + 1 ≤ bp ta (pf50 11) := e55
  have e56 : (pf50 12).toInt = (pf26 12).toInt := e56
  have e57 : (pf50 13).toInt = (pf26 13).toInt := e57
  have e58 : (pf50 24).toInt = (pf26 24).toInt := e58
  have e59 : (pf50 25).toInt = (pf26 25).toInt := e59
  have e60 : (pf50 26).toInt = (pf26 26).toInt := e60
  have hw : pw D A s.heap H locs [wdP cs h r g tf ta pf50 na45 ma28 wa29 cf ca ef ea xf xa] := hw
  refine lv_iload_n S.x S.b d_Mpg_declaration_52 rfl (lv_at hl 0 rfl) ?_
  exact th_iret (v := v8) S hr rfl hlk hAe hw (⟨pf50, na45, ma28, wa29, rfl, (show (pf 11).toInt + 1 ≤ (pf50 11).toInt from by first | exact oz_e69ebdcefb e11 e53 tz21 e32 | omega), (show (pf50 11).toInt < (tf 6).toInt from by first | exact e54 | omega), (show (pf 13).toInt + 1 ≤ (pf50 13).toInt from by first | exact oz_b67d4358c9 e10 e57 e34 | omega), (show (pf50 13).toInt - (pf 13).toInt ≤ (pf50 11).toInt - (pf 11).toInt from by first | exact oz_85dfe7ce3a e10 e11 e53 e57 tz21 e35 | omega), (show bp ta (pf 11) + 1 ≤ bp ta (pf50 11) from by first | with_reducible rfl | with_reducible assumption | omega), (show (pf50 12).toInt = (pf 12).toInt from by first | exact oz_e13fc83238 e12 e56 e37 | omega), (show (pf50 24).toInt = (pf 24).toInt from by first | exact oz_e13fc83238 e13 e58 e38 | omega), (show (pf50 25).toInt = (pf 25).toInt from by first | exact oz_e13fc83238 e14 e59 e39 | omega), (show (pf50 26).toInt = (pf 26).toInt from by first | exact oz_e13fc83238 e15 e60 e40 | omega), (show FrB (pf 13).toInt na ma na45 ma28 from hfb), (show FrW (pf 26).toInt wa wa29 from hfw), (show VlS ta (tf 6).toInt na45 ma28 v8 (pf 13).toInt (pf50 13).toInt (3 * (bp ta (pf50 11) - bp ta (pf 11))) (200 - (pf 12).toInt) from (VlV.le (st_decl (hi := (pf50 13).toInt) (D := 130) ⟨by first | with_reducible rfl | with_reducible assumption | omega, hf_14_v8, hf_15_v8, ⟨by first | with_reducible rfl | with_reducible assumption | omega, by first | with_reducible rfl | with_reducible assumption | omega⟩, hf_21_v8⟩ hf_17_v8 hf_22_v8 (by first | with_reducible rfl | with_reducible assumption | omega) (by first | with_reducible rfl | with_reducible assumption | omega) (lo := v8.toInt + 1) (RlV.le hl_v31 (by first | with_reducible rfl | with_reducible assumption | omega) (by first | with_reducible rfl | with_reducible assumption | omega) (Int.le_refl _) (Int.le_refl _)) (by first | with_reducible rfl | with_reducible assumption | omega)) (by first | with_reducible rfl | with_reducible assumption | omega) (by first | with_reducible rfl | with_reducible assumption | omega) (by first | with_reducible rfl | with_reducible assumption | omega) (by first | with_reducible rfl | with_reducible assumption | omega))), (show DcN na45 v8 from hf_14_v8), (show FsI (tf 6).toInt (pf50 13).toInt na45 from (FsI.le hfs (by first | with_reducible rfl | with_reducible assumption | omega)))⟩) d_Mpg_declaration_53
