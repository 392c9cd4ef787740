theorem oz_f363bd7209 {a0 a1 : Int} (h0 : a0 = a1 + 2) (h1 : 0 ≤ a1) : 1 ≤ a0 := by omega
theorem oz_632d55c52e {a0 a1 a2 : Int} (h0 : a0 = a1 + 1) (h1 : a2 + 2 ≤ a1) (h2 : 0 ≤ a2) : 0 ≤ a0 := by omega
theorem oz_c432c654d4 {a0 a1 a2 a3 : Int} (h0 : a0 = a1 - 1) (h1 : a1 = a2 + 2) (h2 : a3 ≤ a2) (h3 : 0 ≤ a3) : 0 ≤ a0 := by omega
theorem oz_75207bdd89 {a0 a1 a2 a3 : Int} (h0 : a0 = a1) (h1 : a2 < a1) (h2 : 0 ≤ a3) (h3 : a2 = a3) : 0 ≤ a0 := by omega
theorem oz_36e52797e4 {a0 a1 a2 a3 a4 a5 : Int} (h0 : a1 = a2 + 1) (h1 : a0 = a3) (h2 : a3 - a4 + 1 ≤ a2 - a5) (h3 : a4 ≤ a5 + 10) : a0 ≤ a1 + 10 := by omega
theorem oz_956f9fd0b2 {a0 a1 a2 a3 a4 a5 : Int} (h0 : a1 = a2 - 1) (h1 : a0 = a3) (h2 : a3 = a4) (h3 : a2 = a5 + 2) (h4 : a4 ≤ a5) : a0 ≤ a1 := by omega
theorem oz_656724b158 {a0 a1 a2 a3 : Int} (h0 : a0 + 2 ≤ a2) (h1 : a3 + 1 ≤ a1) (h2 : a3 = a2 + 1) : a0 + 1 ≤ a1 := by omega
theorem oz_a203c9a09d {a0 a1 a2 a3 a4 : Int} (h0 : a2 = a0) (h1 : a3 + 1 ≤ a1) (h2 : a2 < a4) (h3 : a3 = a4) : a0 + 1 ≤ a1 := by omega
theorem oz_917b179b80 {a0 a1 a2 a3 a4 a5 a6 a7 : Int} (h0 : a4 - a1 + 1 ≤ a5 - a3) (h1 : a0 - a6 ≤ a2 - a7) (h2 : a7 = a5 + 1) (h3 : a6 = a4) : a0 - a1 ≤ a2 - a3 := by omega
theorem oz_0e56616eb8 {a0 a1 a2 a3 a4 : Int} (h0 : a2 = a1 + 2) (h1 : a0 = a3 - (1 : Int)) (h2 : a4 = a2 - 1) (h3 : a3 = a4) : a0 = a1 := by omega
theorem oz_29ee0aead2 {a0 a1 a2 : Int} (h0 : a2 = a1 + 2) (h1 : a0 = a2) : a0 = a1 + 2 := by omega
theorem oz_8515458490 {a0 a1 a2 : Int} (h0 : a0 + 2 ≤ a2) (h1 : a1 = a2 + 1) : a0 + 2 ≤ a1 := by omega
theorem oz_5544c44f8d {a0 a1 a2 : Int} (h0 : a0 < a2) (h1 : a1 = a2) : a0 < a1 := by omega
theorem oz_f69b4fd1cb {a0 a1 a2 a3 a4 a5 : Int} (h0 : a4 - a1 + 1 ≤ a5 - a3) (h1 : a2 = a5 + 1) (h2 : a0 = a4) : a0 - a1 + 1 ≤ a2 - a3 := by omega
theorem oz_fb3ccc32d0 {a0 a1 a2 a3 : Int} (h0 : a0 = a1) (h1 : a1 = a2 + 2) (h2 : a3 ≤ a2) (h3 : 0 ≤ a3) : 0 ≤ a0 := by omega
theorem oz_9da1e151e3 {a0 a1 a2 a3 a4 a5 : Int} (h0 : a1 = a2 + 1) (h1 : a0 = a3) (h2 : a3 - a4 + 1 ≤ a2 - a5) (h3 : a4 ≤ a5 + 10) : a0 ≤ a1 + 20 := by omega
theorem oz_c2bcecd9e0 {a0 a1 a2 a3 a4 a5 : Int} (h0 : a1 = a2) (h1 : a0 = a3) (h2 : a3 = a4) (h3 : a2 = a5 + 2) (h4 : a4 ≤ a5) : a0 ≤ a1 := by omega
theorem oz_0124fbd43e {a0 a2 a3 : Int} {n1 : Nat} (h0 : 61 ≤ a2 + (n1 : Int)) (h1 : a0 = a3) (h2 : a3 = a2 + 2) : 61 ≤ a0 + (n1 : Int) := by omega
theorem oz_4fb0b9a079 {a0 a1 a2 a3 : Int} (h0 : a2 = a1 + 2) (h1 : a0 = a3) (h2 : a3 = a2) : a0 = a1 + 2 := by omega
theorem oz_755e8a621b {a0 a1 a2 a3 : Int} (h0 : a0 + 2 ≤ a2) (h1 : a3 + 1 ≤ a1) (h2 : a3 = a2 + 1) : a0 + 2 ≤ a1 := by omega
theorem oz_0034474f04 {a0 a1 a2 a3 : Int} (h0 : a0 < a2) (h1 : a3 + 1 ≤ a1) (h2 : a3 = a2) : a0 < a1 := by omega
theorem oz_82dc00f901 {a0 a1 a2 a3 a4 a5 a6 a7 : Int} (h0 : a4 - a1 + 1 ≤ a5 - a3) (h1 : a0 - a6 ≤ a2 - a7) (h2 : a7 = a5 + 1) (h3 : a6 = a4) : a0 - a1 + 1 ≤ a2 - a3 := by omega
theorem oz_092eef7157 {a0 a1 a2 a3 : Int} (h0 : a0 - a2 + 1 ≤ a1 - a3) (h1 : a2 ≤ a3 + 10) : a0 ≤ a1 + 20 := by omega
theorem oz_bdbcb40766 {a0 a1 a2 a3 : Int} (h0 : a0 = a2) (h1 : a1 = a3 + 2) (h2 : a2 ≤ a3) : a0 ≤ a1 := by omega
theorem oz_127efe81fe {a0 a2 : Int} {n1 : Nat} (h0 : 61 ≤ a2 + (n1 : Int)) (h1 : a0 = a2 + 2) : 61 ≤ a0 + (n1 : Int) := by omega
theorem oz_7a8532e08c {a0 a1 a2 : Int} (h0 : a0 + 2 ≤ a2) (h1 : a2 + 1 ≤ a1) : a0 + 2 ≤ a1 := by omega
theorem oz_55ebf42b38 {a0 a1 a2 a3 a4 a5 : Int} (h0 : a4 - a1 + 1 ≤ a5 - a3) (h1 : a0 - a4 ≤ a2 - a5) : a0 - a1 + 1 ≤ a2 - a3 := by omega
theorem oz_d73463faaf {a0 a1 a2 a3 : Int} (h0 : a0 = a1 + 1) (h1 : a1 = a2 + 1) (h2 : 0 ≤ a3) (h3 : a2 = a3) : 0 ≤ a0 := by omega
theorem oz_40c14859f5 {a0 a1 a2 a3 a4 : Int} (h0 : a2 = a1) (h1 : a0 = a3) (h2 : a4 = a2 + 1) (h3 : a3 = a4 + 1) : a0 = a1 + 2 := by omega
theorem oz_2b432613e0 {a0 a1 a2 a3 a4 a5 : Int} (h0 : a2 = a0) (h1 : a1 = a3 + a4) (h2 : a5 = a2 + 1) (h3 : a3 = a5 + 1) (h4 : 0 ≤ a4) : a0 + 2 ≤ a1 := by omega
theorem oz_44247df085 {a0 a1 a2 a3 a4 a5 : Int} (h0 : a0 = a2) (h1 : a1 = a3) (h2 : a4 = a2 + 1) (h3 : a3 = a5) (h4 : a5 = a4) : a0 < a1 := by omega
theorem oz_5314e0b1bd {a0 a1 a2 a3 a4 a5 a6 a7 a8 a9 a10 : Int} (h0 : a4 = a1 + 1) (h1 : a5 = a3) (h2 : a2 = a6 + a7) (h3 : a0 = a8) (h4 : a9 = a5 + 1) (h5 : a10 = a4) (h6 : a6 = a9 + 1) (h7 : a8 = a10) (h8 : 0 ≤ a7) : a0 - a1 + 1 ≤ a2 - a3 := by omega
theorem oz_e771310a17 {a0 a1 a2 a3 a4 : Int} (h0 : a0 = a1) (h1 : a1 = a2) (h2 : a2 = a3) (h3 : a3 = a4 + 1) (h4 : 0 ≤ a4) : 0 ≤ a0 := by omega
theorem oz_b988e3a5f2 {a0 a1 a2 a3 a4 a5 a6 a7 a8 a9 : Int} (h0 : a0 = a1) (h1 : a1 = a2) (h2 : a2 = a3) (h3 : a3 = a4 + 1) (h4 : a4 ≤ a5 + 10) (h5 : a6 = a5) (h6 : a7 ≤ 2049) (h7 : a8 = a6 + 1) (h8 : a9 < a7) (h9 : a9 = a8 + 1) : a0 < 2100 := by omega
theorem oz_453ac321b0 {a0 a1 a2 a3 a4 a5 a6 : Int} (h0 : a0 = a1) (h1 : a1 = a2 + a3) (h2 : a2 = a4 + 1) (h3 : 0 ≤ a3) (h4 : 0 ≤ a5) (h5 : a6 = a5) (h6 : a4 = a6 + 1) : 0 ≤ a0 := by omega
theorem oz_0e72690fbd {a0 a1 a2 a3 a4 a5 a6 : Int} (h0 : a0 = a1) (h1 : a1 = a2) (h2 : a2 = a3 + 1) (h3 : a3 = a4 + 1) (h4 : a4 = a5) (h5 : a6 ≤ a5) (h6 : 0 ≤ a6) : 0 ≤ a0 := by omega
theorem oz_9d3054870c {a0 a1 a2 a3 a4 a5 : Int} (h0 : a0 = a1 + 1) (h1 : a1 = a2) (h2 : a2 = a3) (h3 : a3 = a4) (h4 : a4 = a5 + 1) (h5 : 0 ≤ a5) : 0 ≤ a0 := by omega
theorem oz_94edcc245e {a0 a1 a2 a3 a4 a5 a6 a7 a8 a9 a10 a11 a12 : Int} (h0 : a0 = a2 + 1) (h1 : a1 = a3) (h2 : a3 = a4 + a5) (h3 : a2 = a6) (h4 : a4 = a7 + 1) (h5 : a6 = a8) (h6 : 0 ≤ a5) (h7 : a9 ≤ a10 + 10) (h8 : a11 = a10) (h9 : a7 = a11 + 1) (h10 : a8 = a12) (h11 : a12 = a9 + 1) : a0 ≤ a1 + 20 := by omega
theorem oz_9459e7f993 {a0 a1 a2 a3 a4 a5 a6 a7 a8 a9 a10 a11 : Int} (h0 : a1 = a2) (h1 : a0 = a3) (h2 : a2 = a4) (h3 : a3 = a5) (h4 : a4 = a6 + 1) (h5 : a5 = a7) (h6 : a6 = a8 + 1) (h7 : a7 = a9) (h8 : a8 = a10) (h9 : a9 = a11) (h10 : a11 ≤ a10) : a0 ≤ a1 := by omega
theorem oz_9e50793284 {a0 a2 a3 a4 a5 a6 : Int} {n1 : Nat} (h0 : 61 ≤ a2 + (n1 : Int)) (h1 : a0 = a3) (h2 : a4 = a2) (h3 : a3 = a5) (h4 : a6 = a4 + 1) (h5 : a5 = a6 + 1) : 61 ≤ a0 + (n1 : Int) := by omega
theorem oz_24779b4509 {a0 a1 a2 a3 a4 a5 a6 a7 : Int} (h0 : a1 + 1 ≤ a0) (h1 : a1 = a2) (h2 : 0 ≤ a3) (h3 : a4 = a3) (h4 : a5 = a4 + 1) (h5 : a6 = a5 + 1) (h6 : a2 = a6 + a7) (h7 : 0 ≤ a7) : 0 ≤ a0 := by omega
theorem oz_7dc59d7be9 {a0 a1 a2 a3 a4 a5 a6 a7 : Int} (h0 : a2 = a1) (h1 : a0 = a3) (h2 : a4 = a2 + 1) (h3 : a3 = a5) (h4 : a6 = a4 + 1) (h5 : a5 = a7) (h6 : a7 = a6) : a0 = a1 + 2 := by omega
theorem oz_3dac64c40e {a0 a1 a2 a3 a4 a5 : Int} (h0 : a0 = a1) (h1 : a1 = a2) (h2 : a2 = a3) (h3 : a3 = a4) (h4 : a4 = a5 + 1) (h5 : a5 < 60) : a0 ≤ 60 := by omega
theorem oz_350c80a278 {a0 a1 a2 a3 a4 a5 a6 a7 a8 : Int} (h0 : a2 = a0) (h1 : a1 = a3 + 1) (h2 : a4 = a2 + 1) (h3 : a5 + 1 ≤ a3) (h4 : a6 = a4 + 1) (h5 : a7 = a6 + a8) (h6 : a5 = a7) (h7 : 0 ≤ a8) : a0 + 2 ≤ a1 := by omega
theorem oz_270e46aea8 {a0 a1 a2 a3 a4 a5 a6 a7 a8 : Int} (h0 : a0 = a2) (h1 : a1 = a3) (h2 : a4 = a2 + 1) (h3 : a5 + 1 ≤ a3) (h4 : a6 = a4) (h5 : a5 = a7 + 1) (h6 : a8 = a6) (h7 : a7 = a8) : a0 < a1 := by omega
theorem oz_a9dcf29ee3 {a0 a1 a2 a3 a4 a5 a6 a7 a8 a9 a10 a11 a12 a13 a14 a15 a16 : Int} (h0 : a4 = a1 + 1) (h1 : a5 = a3) (h2 : a2 = a6 + 1) (h3 : a0 = a7) (h4 : a8 = a5 + 1) (h5 : a9 = a4) (h6 : a7 - a10 ≤ a6 - a11) (h7 : a12 = a8 + 1) (h8 : a13 = a9) (h9 : a14 = a12 + a15) (h10 : a10 = a16 + 1) (h11 : a11 = a14) (h12 : 0 ≤ a15) (h13 : a16 = a13) : a0 - a1 + 1 ≤ a2 - a3 := by omega
theorem oz_76e1b18faf {a0 a1 a2 a3 : Int} (h0 : a0 = a1 + 1) (h1 : a1 = a2 + 1) (h2 : a2 = a3) (h3 : 0 ≤ a3) : 0 ≤ a0 := by omega
theorem oz_717962a5e4 {a0 a1 a2 a3 : Int} (h0 : a0 = a1) (h1 : a1 = a2) (h2 : a2 = a3 + 1) (h3 : 0 ≤ a3) : 0 ≤ a0 := by omega
theorem oz_7f53689946 {a0 a1 a2 a3 a4 a5 a6 a7 : Int} (h0 : a1 = a2 + 1) (h1 : a0 = a3) (h2 : a2 = a4 + 1) (h3 : a3 = a5) (h4 : a6 ≤ a7 + 10) (h5 : a5 = a6 + 1) (h6 : a4 = a7) : a0 ≤ a1 + 10 := by omega
theorem oz_eb17792cf2 {a0 a1 a2 a3 a4 a5 a6 a7 : Int} (h0 : a1 = a2 + 1) (h1 : a0 = a3) (h2 : a2 = a4 + 1) (h3 : a3 = a5) (h4 : a4 = a6) (h5 : a5 = a7) (h6 : a7 ≤ a6) : a0 ≤ a1 := by omega
theorem oz_96afeea4d9 {a0 a2 a3 a4 : Int} {n1 : Nat} (h0 : 61 ≤ a2 + (n1 : Int)) (h1 : a0 = a3 + 1) (h2 : a4 = a2) (h3 : a3 = a4 + 1) : 61 ≤ a0 + (n1 : Int) := by omega
theorem oz_12e446d2fd {a0 a1 a2 a3 a4 : Int} (h0 : a2 = a0) (h1 : a3 + 1 ≤ a1) (h2 : a4 = a2 + 1) (h3 : a3 = a4 + 1) : a0 + 2 ≤ a1 := by omega
theorem oz_d71012882d {a0 a1 a2 a3 a4 a5 : Int} (h0 : a0 = a2) (h1 : a3 + 1 ≤ a1) (h2 : a4 = a2 + 1) (h3 : a3 = a5) (h4 : a5 = a4) : a0 < a1 := by omega
theorem oz_8913a1f1b4 {a0 a1 a2 a3 a4 a5 a6 a7 a8 a9 : Int} (h0 : a4 = a1 + 1) (h1 : a5 = a3) (h2 : a0 - a6 ≤ a2 - a7) (h3 : a8 = a5 + 1) (h4 : a9 = a4) (h5 : a7 = a8 + 1) (h6 : a6 = a9) : a0 - a1 + 1 ≤ a2 - a3 := by omega
theorem m12_82 : Cond.methodLink "HomeSystemModel$Program" 473 ⟨"HomeSystemModel$Program", "isType", "()Z"⟩ ∈ AL := AL_12 (List.mem_of_getElem? (i := 82) rfl) rfl
theorem m12_85 : Cond.code ⟨"HomeSystemModel$Program", "isType", "()Z"⟩ prog_16_method_48_code 1 (Option.some FieldType.boolean) ∈ AL := AL_12 (List.mem_of_getElem? (i := 85) rfl) rfl
theorem ms_10_6 : Cond.selects "HomeSystemModel$Program" ⟨"HomeSystemModel$Program", "isType", "()Z"⟩ ⟨"HomeSystemModel$Program", "isType", "()Z"⟩ ∈ AL := AL_p (q := (⟨"HomeSystemModel$Program", "isType", "()Z"⟩, 69)) (by unfold lw_privs; exact List.mem_append_right _ (List.mem_append_right _ (List.mem_append_right _ (List.mem_append_right _ (List.mem_append_right _ (List.mem_append_right _ (List.mem_append_right _ (List.mem_append_right _ (List.mem_append_right _ (List.mem_append_left _ (List.mem_of_getElem? (i := 6) rfl)))))))))))
theorem m12_84 : Cond.instanceMethod ⟨"HomeSystemModel$Program", "isType", "()Z"⟩ ∈ AL := AL_12 (List.mem_of_getElem? (i := 84) rfl) rfl
theorem m12_102 : Cond.methodLink "HomeSystemModel$Program" 476 ⟨"HomeSystemModel$Program", "declaration", "()I"⟩ ∈ AL := AL_12 (List.mem_of_getElem? (i := 102) rfl) rfl
theorem m12_105 : Cond.code ⟨"HomeSystemModel$Program", "declaration", "()I"⟩ prog_16_method_47_code 2 (Option.some FieldType.int) ∈ AL := AL_12 (List.mem_of_getElem? (i := 105) rfl) rfl
theorem ms_10_11 : Cond.selects "HomeSystemModel$Program" ⟨"HomeSystemModel$Program", "declaration", "()I"⟩ ⟨"HomeSystemModel$Program", "declaration", "()I"⟩ ∈ AL := AL_p (q := (⟨"HomeSystemModel$Program", "declaration", "()I"⟩, 69)) (by unfold lw_privs; exact List.mem_append_right _ (List.mem_append_right _ (List.mem_append_right _ (List.mem_append_right _ (List.mem_append_right _ (List.mem_append_right _ (List.mem_append_right _ (List.mem_append_right _ (List.mem_append_right _ (List.mem_append_left _ (List.mem_of_getElem? (i := 11) rfl)))))))))))
theorem m12_104 : Cond.instanceMethod ⟨"HomeSystemModel$Program", "declaration", "()I"⟩ ∈ AL := AL_12 (List.mem_of_getElem? (i := 104) rfl) rfl
abbrev b_Mpg_forLoop : ByteArray := prog_16_method_55_code
def y_Mpg_forLoop : MethodName := ⟨"HomeSystemModel$Program", "forLoop", "()I"⟩
theorem d_Mpg_forLoop_0 : decode b_Mpg_forLoop 0 = .ok (.aload_n 0, 1) := by decide +kernel
theorem d_Mpg_forLoop_1 : decode b_Mpg_forLoop 1 = .ok (.bipush 27, 2) := by decide +kernel
theorem d_Mpg_forLoop_3 : decode b_Mpg_forLoop 3 = .ok (.aload_n 0, 1) := by decide +kernel
theorem d_Mpg_forLoop_4 : decode b_Mpg_forLoop 4 = .ok (.getfield 360, 3) := by decide +kernel
theorem d_Mpg_forLoop_7 : decode b_Mpg_forLoop 7 = .ok (.invokevirtual 406, 3) := by decide +kernel
theorem d_Mpg_forLoop_10 : decode b_Mpg_forLoop 10 = .ok (.istore_n 1, 1) := by decide +kernel
theorem d_Mpg_forLoop_11 : decode b_Mpg_forLoop 11 = .ok (.aload_n 0, 1) := by decide +kernel
theorem d_Mpg_forLoop_12 : decode b_Mpg_forLoop 12 = .ok (.invokevirtual 383, 3) := by decide +kernel
theorem d_Mpg_forLoop_15 : decode b_Mpg_forLoop 15 = .ok (.aload_n 0, 1) := by decide +kernel
theorem d_Mpg_forLoop_16 : decode b_Mpg_forLoop 16 = .ok (.ldc 87, 2) := by decide +kernel
theorem d_Mpg_forLoop_18 : decode b_Mpg_forLoop 18 = .ok (.invokevirtual 457, 3) := by decide +kernel
theorem d_Mpg_forLoop_21 : decode b_Mpg_forLoop 21 = .ok (.aload_n 0, 1) := by decide +kernel
theorem d_Mpg_forLoop_22 : decode b_Mpg_forLoop 22 = .ok (.invokevirtual 473, 3) := by decide +kernel
theorem d_Mpg_forLoop_25 : decode b_Mpg_forLoop 25 = .ok (.ifCond .eq 16, 3) := by decide +kernel
theorem d_Mpg_forLoop_28 : decode b_Mpg_forLoop 28 = .ok (.aload_n 0, 1) := by decide +kernel
theorem d_Mpg_forLoop_29 : decode b_Mpg_forLoop 29 = .ok (.getfield 216, 3) := by decide +kernel
theorem d_Mpg_forLoop_32 : decode b_Mpg_forLoop 32 = .ok (.iload_n 1, 1) := by decide +kernel
theorem d_Mpg_forLoop_33 : decode b_Mpg_forLoop 33 = .ok (.aload_n 0, 1) := by decide +kernel
theorem d_Mpg_forLoop_34 : decode b_Mpg_forLoop 34 = .ok (.invokevirtual 476, 3) := by decide +kernel
theorem d_Mpg_forLoop_37 : decode b_Mpg_forLoop 37 = .ok (.iastore, 1) := by decide +kernel
theorem d_Mpg_forLoop_38 : decode b_Mpg_forLoop 38 = .ok (.goto 46, 3) := by decide +kernel
theorem d_Mpg_forLoop_41 : decode b_Mpg_forLoop 41 = .ok (.aload_n 0, 1) := by decide +kernel
theorem d_Mpg_forLoop_42 : decode b_Mpg_forLoop 42 = .ok (.ldc 101, 2) := by decide +kernel
theorem d_Mpg_forLoop_44 : decode b_Mpg_forLoop 44 = .ok (.invokevirtual 370, 3) := by decide +kernel
theorem d_Mpg_forLoop_47 : decode b_Mpg_forLoop 47 = .ok (.ifCond .ne 37, 3) := by decide +kernel
theorem d_Mpg_forLoop_50 : decode b_Mpg_forLoop 50 = .ok (.aload_n 0, 1) := by decide +kernel
theorem d_Mpg_forLoop_51 : decode b_Mpg_forLoop 51 = .ok (.bipush 22, 2) := by decide +kernel
theorem d_Mpg_forLoop_53 : decode b_Mpg_forLoop 53 = .ok (.aload_n 0, 1) := by decide +kernel
theorem d_Mpg_forLoop_54 : decode b_Mpg_forLoop 54 = .ok (.getfield 360, 3) := by decide +kernel
theorem d_Mpg_forLoop_57 : decode b_Mpg_forLoop 57 = .ok (.invokevirtual 406, 3) := by decide +kernel
theorem d_Mpg_forLoop_60 : decode b_Mpg_forLoop 60 = .ok (.istore_n 2, 1) := by decide +kernel
theorem d_Mpg_forLoop_61 : decode b_Mpg_forLoop 61 = .ok (.aload_n 0, 1) := by decide +kernel
theorem d_Mpg_forLoop_62 : decode b_Mpg_forLoop 62 = .ok (.getfield 216, 3) := by decide +kernel
theorem d_Mpg_forLoop_65 : decode b_Mpg_forLoop 65 = .ok (.iload_n 2, 1) := by decide +kernel
theorem d_Mpg_forLoop_66 : decode b_Mpg_forLoop 66 = .ok (.aload_n 0, 1) := by decide +kernel
theorem d_Mpg_forLoop_67 : decode b_Mpg_forLoop 67 = .ok (.invokevirtual 403, 3) := by decide +kernel
theorem d_Mpg_forLoop_70 : decode b_Mpg_forLoop 70 = .ok (.iastore, 1) := by decide +kernel
theorem d_Mpg_forLoop_71 : decode b_Mpg_forLoop 71 = .ok (.aload_n 0, 1) := by decide +kernel
theorem d_Mpg_forLoop_72 : decode b_Mpg_forLoop 72 = .ok (.getfield 216, 3) := by decide +kernel
theorem d_Mpg_forLoop_75 : decode b_Mpg_forLoop 75 = .ok (.iload_n 1, 1) := by decide +kernel
theorem d_Mpg_forLoop_76 : decode b_Mpg_forLoop 76 = .ok (.iload_n 2, 1) := by decide +kernel
theorem d_Mpg_forLoop_77 : decode b_Mpg_forLoop 77 = .ok (.iastore, 1) := by decide +kernel
theorem d_Mpg_forLoop_78 : decode b_Mpg_forLoop 78 = .ok (.aload_n 0, 1) := by decide +kernel
theorem d_Mpg_forLoop_79 : decode b_Mpg_forLoop 79 = .ok (.ldc 101, 2) := by decide +kernel
theorem d_Mpg_forLoop_81 : decode b_Mpg_forLoop 81 = .ok (.invokevirtual 386, 3) := by decide +kernel
theorem d_Mpg_forLoop_84 : decode b_Mpg_forLoop 84 = .ok (.aload_n 0, 1) := by decide +kernel
theorem d_Mpg_forLoop_85 : decode b_Mpg_forLoop 85 = .ok (.ldc 101, 2) := by decide +kernel
theorem d_Mpg_forLoop_87 : decode b_Mpg_forLoop 87 = .ok (.invokevirtual 366, 3) := by decide +kernel
theorem d_Mpg_forLoop_90 : decode b_Mpg_forLoop 90 = .ok (.ifCond .ne 13, 3) := by decide +kernel
theorem d_Mpg_forLoop_93 : decode b_Mpg_forLoop 93 = .ok (.aload_n 0, 1) := by decide +kernel
theorem d_Mpg_forLoop_94 : decode b_Mpg_forLoop 94 = .ok (.getfield 219, 3) := by decide +kernel
theorem d_Mpg_forLoop_97 : decode b_Mpg_forLoop 97 = .ok (.iload_n 1, 1) := by decide +kernel
theorem d_Mpg_forLoop_98 : decode b_Mpg_forLoop 98 = .ok (.aload_n 0, 1) := by decide +kernel
theorem d_Mpg_forLoop_99 : decode b_Mpg_forLoop 99 = .ok (.invokevirtual 403, 3) := by decide +kernel
theorem d_Mpg_forLoop_102 : decode b_Mpg_forLoop 102 = .ok (.iastore, 1) := by decide +kernel
theorem d_Mpg_forLoop_103 : decode b_Mpg_forLoop 103 = .ok (.aload_n 0, 1) := by decide +kernel
theorem d_Mpg_forLoop_104 : decode b_Mpg_forLoop 104 = .ok (.ldc 101, 2) := by decide +kernel
theorem d_Mpg_forLoop_106 : decode b_Mpg_forLoop 106 = .ok (.invokevirtual 386, 3) := by decide +kernel
theorem d_Mpg_forLoop_109 : decode b_Mpg_forLoop 109 = .ok (.aload_n 0, 1) := by decide +kernel
theorem d_Mpg_forLoop_110 : decode b_Mpg_forLoop 110 = .ok (.ldc 89, 2) := by decide +kernel
theorem d_Mpg_forLoop_112 : decode b_Mpg_forLoop 112 = .ok (.invokevirtual 366, 3) := by decide +kernel
theorem d_Mpg_forLoop_115 : decode b_Mpg_forLoop 115 = .ok (.ifCond .ne 13, 3) := by decide +kernel
theorem d_Mpg_forLoop_118 : decode b_Mpg_forLoop 118 = .ok (.aload_n 0, 1) := by decide +kernel
theorem d_Mpg_forLoop_119 : decode b_Mpg_forLoop 119 = .ok (.getfield 222, 3) := by decide +kernel
theorem d_Mpg_forLoop_122 : decode b_Mpg_forLoop 122 = .ok (.iload_n 1, 1) := by decide +kernel
theorem d_Mpg_forLoop_123 : decode b_Mpg_forLoop 123 = .ok (.aload_n 0, 1) := by decide +kernel
theorem d_Mpg_forLoop_124 : decode b_Mpg_forLoop 124 = .ok (.invokevirtual 403, 3) := by decide +kernel
theorem d_Mpg_forLoop_127 : decode b_Mpg_forLoop 127 = .ok (.iastore, 1) := by decide +kernel
theorem d_Mpg_forLoop_128 : decode b_Mpg_forLoop 128 = .ok (.aload_n 0, 1) := by decide +kernel
theorem d_Mpg_forLoop_129 : decode b_Mpg_forLoop 129 = .ok (.ldc 89, 2) := by decide +kernel
theorem d_Mpg_forLoop_131 : decode b_Mpg_forLoop 131 = .ok (.invokevirtual 439, 3) := by decide +kernel
theorem d_Mpg_forLoop_134 : decode b_Mpg_forLoop 134 = .ok (.aload_n 0, 1) := by decide +kernel
theorem d_Mpg_forLoop_135 : decode b_Mpg_forLoop 135 = .ok (.getfield 225, 3) := by decide +kernel
theorem d_Mpg_forLoop_138 : decode b_Mpg_forLoop 138 = .ok (.iload_n 1, 1) := by decide +kernel
theorem d_Mpg_forLoop_139 : decode b_Mpg_forLoop 139 = .ok (.aload_n 0, 1) := by decide +kernel
theorem d_Mpg_forLoop_140 : decode b_Mpg_forLoop 140 = .ok (.invokevirtual 463, 3) := by decide +kernel
theorem d_Mpg_forLoop_143 : decode b_Mpg_forLoop 143 = .ok (.iastore, 1) := by decide +kernel
theorem d_Mpg_forLoop_144 : decode b_Mpg_forLoop 144 = .ok (.aload_n 0, 1) := by decide +kernel
theorem d_Mpg_forLoop_145 : decode b_Mpg_forLoop 145 = .ok (.dup, 1) := by decide +kernel
theorem d_Mpg_forLoop_146 : decode b_Mpg_forLoop 146 = .ok (.getfield 380, 3) := by decide +kernel
theorem d_Mpg_forLoop_149 : decode b_Mpg_forLoop 149 = .ok (.iconst 1, 1) := by decide +kernel
theorem d_Mpg_forLoop_150 : decode b_Mpg_forLoop 150 = .ok (.isub, 1) := by decide +kernel
theorem d_Mpg_forLoop_151 : decode b_Mpg_forLoop 151 = .ok (.putfield 380, 3) := by decide +kernel
theorem d_Mpg_forLoop_154 : decode b_Mpg_forLoop 154 = .ok (.iload_n 1, 1) := by decide +kernel
theorem d_Mpg_forLoop_155 : decode b_Mpg_forLoop 155 = .ok (.ireturn, 1) := by decide +kernel
theorem q_Mpg_forLoop : px_y y_Mpg_forLoop 0 := by unfold px_y; decide +kernel
set_option maxHeartbeats 4000000 in
set_option maxRecDepth 100000 in
theorem c_mp_forLoop (l : Launch) (D : va_G) (cs : Nat → ClassId) (h : Nat) (r : Nat → Nat) (g : Nat → Nat → Option Nat) (tf : Nat → Int32) (ta : Nat → Nat → Int32) (cf : Nat → Int32) (ca : Nat → Nat → Int32) (ef : Nat → Int32) (ea : Nat → Nat → Int32) (xf : Nat → Int32) (xa : Nat → Nat → Int32) (pf : Nat → Int32) (na : Nat → Nat → Int32) (ma : Nat → Nat → Int32) (wa : Nat → Nat → Int32) (lv : Nat) (g0 : 0 ≤ (pf 11).toInt) (g1 : (pf 11).toInt < (tf 6).toInt) (g2 : (tf 6).toInt ≤ 2049) (g3 : 0 ≤ (pf 12).toInt) (g4 : (pf 12).toInt ≤ 60) (g5 : 0 ≤ (pf 13).toInt) (g6 : (pf 13).toInt ≤ (pf 11).toInt + 10) (g7 : 0 ≤ (pf 26).toInt) (g8 : (pf 26).toInt ≤ (pf 12).toInt) (g9 : 61 ≤ (pf 12).toInt + (lv : Int)) (g10 : lv ≤ 61) (g11 : (pf 11).toInt + 1 < (tf 6).toInt) (hlf : l.flags = pinnedFlags ++ [noTraceFlag]) (htk : TkI tf ta) (hfs : FsI (tf 6).toInt (pf 13).toInt na) (hLT : LvT l D cs lv) : ThI l y_Mpg_forLoop b_Mpg_forLoop 3 (.int) D cs (8 * lv + 26) (220 * lv + 1200) [.ref h] [wdP cs h r g tf ta pf na ma wa cf ca ef ea xf xa] (oX (fun A U H => (oN A U H) ∧ (oP A g U H)) [wdP cs h r g tf ta pf na ma wa cf ca ef ea xf xa]) "java/lang/IllegalArgumentException" (fun v ps => ∃ (pf' : Nat → Int32) (na' : Nat → Nat → Int32) (ma' : Nat → Nat → Int32) (wa' : Nat → Nat → Int32), (ps = [wdP cs h r g tf ta pf' na' ma' wa' cf ca ef ea xf xa]) ∧ ((pf 11).toInt + 1 ≤ (pf' 11).toInt) ∧ ((pf' 11).toInt < (tf 6).toInt) ∧ ((pf 13).toInt + 1 ≤ (pf' 13).toInt) ∧ ((pf' 13).toInt - (pf 13).toInt ≤ (pf' 11).toInt - (pf 11).toInt) ∧ (bp ta (pf 11) + 1 ≤ bp ta (pf' 11)) ∧ ((pf' 12).toInt = (pf 12).toInt) ∧ ((pf' 24).toInt = (pf 24).toInt) ∧ ((pf' 25).toInt = (pf 25).toInt) ∧ ((pf' 26).toInt = (pf 26).toInt) ∧ (FrB (pf 13).toInt na ma na' ma') ∧ (FrW (pf 26).toInt wa wa') ∧ (VlS ta (tf 6).toInt na' ma' v (pf 13).toInt (pf' 13).toInt (3 * (bp ta (pf' 11) - bp ta (pf 11))) (200 - (pf 12).toInt)) ∧ (FsI (tf 6).toInt (pf' 13).toInt na')) (fun ps => ∃ (pf' : Nat → Int32) (na' : Nat → Nat → Int32) (ma' : Nat → Nat → Int32) (wa' : Nat → Nat → Int32), ps = [wdP cs h r g tf ta pf' na' ma' wa' cf ca ef ea xf xa] ∧ 0 ≤ (pf' 11).toInt ∧ (pf' 11).toInt + 1 ≤ (tf 6).toInt) := by
  refine th_enter (by decide) (Nat.le_of_ble_eq_true rfl) ?_
  intro p e s m below meth c A ls hAe S hr hlk hnm hA hT hX hw hl hne hadm
  have hl : lv_has ls 3 [(0, .ref h)] := hl
  have cst1 : (1 : Int32).toInt = 1 := rfl
  have cst22 : (22 : Int32).toInt = 22 := rfl
  have cst27 : (27 : Int32).toInt = 27 := rfl
  have hX : (fun A U H => (oN A U H) ∧ (oP A g U H)) A s s.heap := by rw [hAe]; exact hX
  obtain ⟨hN, hP⟩ := hX
  have hZ := hP.1
  have hF0 := hP.2.1
  have hfb : FrB (pf 13).toInt na ma na ma := FrB.rf
  have hfw : FrW (pf 26).toInt wa wa := FrW.rf
  have J128 : ∀ (pf_128 : Nat → Int32) (na_128 : Nat → Nat → Int32) (ma_128 : Nat → Nat → Int32) (wa_128 : Nat → Nat → Int32) (x128_1 : Int32) (H : Heap) (locs : List Loc) (ls : Array Slot), ((pf_128 24).toInt = (pf 24).toInt) → ((pf_128 25).toInt = (pf 25).toInt) → ((pf_128 26).toInt = (pf 26).toInt) → ((pf_128 12).toInt = (pf 12).toInt + 2) → ((pf_128 12).toInt ≤ 60) → ((pf 11).toInt + 2 ≤ (pf_128 11).toInt) → ((pf_128 11).toInt < (tf 6).toInt) → (x128_1.toInt = (pf 13).toInt) → (x128_1.toInt < (pf_128 13).toInt) → ((pf_128 13).toInt - (pf 13).toInt + 1 ≤ (pf_128 11).toInt - (pf 11).toInt) → (bp ta (pf 11) + 2 ≤ bp ta (pf_128 11)) → (FrB (pf 13).toInt na ma na_128 ma_128) → (FrW (pf 26).toInt wa wa_128) → (NdF (tf 6).toInt na_128 x128_1 27 (pf 11)) → (FoV ta (tf 6).toInt na_128 ma_128 2 x128_1 (pf_128 13).toInt (3 * (bp ta (pf_128 11) - bp ta (pf 11)) - 5) (199 - (pf 12).toInt)) → (FsI (tf 6).toInt (pf_128 13).toInt na_128) → pw D A s.heap H locs [wdP cs h r g tf ta pf_128 na_128 ma_128 wa_128 cf ca ef ea xf xa] → lv_has ls 3 [(0, .ref h), (1, .int x128_1)] → W p l e { frames := (8 * lv + 26), cells := 1, slots := 6, locals := (220 * lv + 1200) } s m [.ref h].toArray below meth c H locs 0 0 (tx_MQ below (thQi D (va_A ([wdP cs h r g tf ta pf na ma wa cf ca ef ea xf xa] : List va_W).flatten s.heap.size) "java/lang/IllegalArgumentException" (fun v ps => ∃ (pf' : Nat → Int32) (na' : Nat → Nat → Int32) (ma' : Nat → Nat → Int32) (wa' : Nat → Nat → Int32), (ps = [wdP cs h r g tf ta pf' na' ma' wa' cf ca ef ea xf xa]) ∧ ((pf 11).toInt + 1 ≤ (pf' 11).toInt) ∧ ((pf' 11).toInt < (tf 6).toInt) ∧ ((pf 13).toInt + 1 ≤ (pf' 13).toInt) ∧ ((pf' 13).toInt - (pf 13).toInt ≤ (pf' 11).toInt - (pf 11).toInt) ∧ (bp ta (pf 11) + 1 ≤ bp ta (pf' 11)) ∧ ((pf' 12).toInt = (pf 12).toInt) ∧ ((pf' 24).toInt = (pf 24).toInt) ∧ ((pf' 25).toInt = (pf 25).toInt) ∧ ((pf' 26).toInt = (pf 26).toInt) ∧ (FrB (pf 13).toInt na ma na' ma') ∧ (FrW (pf 26).toInt wa wa') ∧ (VlS ta (tf 6).toInt na' ma' v (pf 13).toInt (pf' 13).toInt (3 * (bp ta (pf' 11) - bp ta (pf 11))) (200 - (pf 12).toInt)) ∧ (FsI (tf 6).toInt (pf' 13).toInt na')) (fun ps => ∃ (pf' : Nat → Int32) (na' : Nat → Nat → Int32) (ma' : Nat → Nat → Int32) (wa' : Nat → Nat → Int32), ps = [wdP cs h r g tf ta pf' na' ma' wa' cf ca ef ea xf xa] ∧ 0 ≤ (pf' 11).toInt ∧ (pf' 11).toInt + 1 ≤ (tf 6).toInt) s.heap.size (tot s.heap)) [.ref h].toArray s 1 6 A) (F0 m 128 ls []) := by
    intro pf_128 na_128 ma_128 wa_128 x128_1 H locs ls k128_0 k128_1 k128_2 k128_3 k128_4 k128_5 k128_6 k128_7 k128_8 k128_9 k128_10 k128_11 k128_12 k128_13 k128_14 k128_15 hw hl
    have lx128_1 := Int32.le_toInt x128_1
    have ux128_1 := Int32.toInt_lt x128_1
    have hfb := k128_11
    have hfw := k128_12
    have hf_14_x128_1 := k128_13.2.1
    have hf_15_x128_1 := k128_13.2.2.1
    have hf_21_x128_1 := k128_13.2.2.2.2
    have hnt_x128_1 := k128_13.2.2.2.1
    have hfo := k128_14
    have hwfo := hfo.wpos
    have hfs := k128_15
    refine lv_aload_n S.x S.b d_Mpg_forLoop_128 rfl (lv_at hl 0 rfl) ?_
    obtain ⟨sk1, hRsk1, st2, sb3, hSsk1⟩ := oP_lit hP (k := 89) (tx := ")") (n := 1) (List.mem_of_getElem? (i := 36) rfl)
    refine va_ldcS S.x S.b S.own hRsk1 d_Mpg_forLoop_129 ?_
    refine th_callv (ps0 := [wdP cs h r g tf ta pf na ma wa cf ca ef ea xf xa]) (pr := []) (pcs := [wdP cs h r g tf ta pf_128 na_128 ma_128 wa_128 cf ca ef ea xf xa]) (As := [.ref sk1]) (rest := []) (c_mp_closes l D cs sk1 1 h r g tf ta na_128 ma_128 wa_128 cf ca ef ea xf xa pf_128   (show 0 ≤ (pf_128 11).toInt from by first | exact oz_f101e7799b k128_5 g0 | omega) (show (pf_128 11).toInt < (tf 6).toInt from by first | exact k128_6 | omega) (show (tf 6).toInt ≤ 2049 from by first | exact g2 | omega) (show 1 ≤ (pf_128 12).toInt from by first | exact oz_f363bd7209 k128_3 g3 | omega) (show (pf_128 12).toInt ≤ 60 from by first | exact k128_4 | omega) (show 1 ≤ 100 from by first | decide | omega) hlf htk) S hT hw (oX_call (P := (fun A U H => (oN A U H) ∧ (oP A g U H) ∧ (StS A sk1 1 U H))) (pr := []) (oG_and oG_N (oG_and oG_P oG_Q)) hw hA ⟨hN, hP, ⟨_, _, hSsk1⟩⟩) (px_recv hT hw 0 0 rfl rfl rfl) m12_53 m12_50 m12_52 ms_9_14 m1_21 q_Mpg_closes ⟨show 8 + 1 ≤ (8 * lv + 26) from by first | with_reducible rfl | with_reducible assumption | omega, show 8 + (2 + 11) + 280 ≤ (220 * lv + 1200) from by first | with_reducible rfl | with_reducible assumption | omega⟩ hl.1 rfl (Nat.le_of_ble_eq_true rfl) d_Mpg_forLoop_131 ⟨Nat.le_of_ble_eq_true rfl, Nat.le_of_ble_eq_true rfl⟩ hne hlk hA hAe (fun o t h => Or.inr h) ?_ (fun p6 H locs hp6 hw => ?_)
    · exact fun p1 H1 locs1 hp hw => by obtain ⟨pq1, pq2, pq3, pq4, rfl, hq1, hq2⟩ := hp; exact ⟨_, ⟨pq1, pq2, pq3, pq4, rfl, hq1, hq2⟩, hw⟩
    obtain ⟨pf5, rfl, e8, e9, e10, e11, e12, e13, e14, e15⟩ := hp6
    have e8 : (pf5 11).toInt = (pf_128 11).toInt + 1 := e8
    have e9 : (pf5 11).toInt < (tf 6).toInt := e9
    have e10 : bp ta (pf_128 11) + 1 ≤ bp ta (pf5 11) := e10
    have e11 : (pf5 12).toInt = (pf_128 12).toInt - 1 := e11
    have e12 : (pf5 13).toInt = (pf_128 13).toInt := e12
    have e13 : (pf5 24).toInt = (pf_128 24).toInt := e13
    have e14 : (pf5 25).toInt = (pf_128 25).toInt := e14
    have e15 : (pf5 26).toInt = (pf_128 26).toInt := e15
    have hw : pw D A s.heap H locs [wdP cs h r g tf ta pf5 na_128 ma_128 wa_128 cf ca ef ea xf xa] := hw
    refine lv_aload_n S.x S.b d_Mpg_forLoop_134 rfl (lv_at hl 0 rfl) ?_
    refine px_get S k_Mpg hT hw 0 0 20 (v := .ref (r 20)) rfl rfl rfl (by decide) m10_6 d_Mpg_forLoop_135 ?_
    refine lv_iload_n S.x S.b d_Mpg_forLoop_138 rfl (lv_at hl 1 rfl) ?_
    refine lv_aload_n S.x S.b d_Mpg_forLoop_139 rfl (lv_at hl 0 rfl) ?_
    refine th_calli (ps0 := [wdP cs h r g tf ta pf na ma wa cf ca ef ea xf xa]) (pr := []) (pcs := [wdP cs h r g tf ta pf5 na_128 ma_128 wa_128 cf ca ef ea xf xa]) (As := []) (rest := [.int x128_1, .ref (r 20)]) ((hLT.go (by first | with_reducible rfl | with_reducible assumption | omega)) h r g tf ta cf ca ef ea xf xa pf5 na_128 ma_128 wa_128   (show 0 ≤ (pf5 11).toInt from by first | exact oz_632d55c52e e8 k128_5 g0 | omega) (show (pf5 11).toInt < (tf 6).toInt from by first | exact e9 | omega) (show (tf 6).toInt ≤ 2049 from by first | exact g2 | omega) (show 0 ≤ (pf5 12).toInt from by first | exact oz_c432c654d4 e11 k128_3 g8 g7 | omega) (show (pf5 12).toInt ≤ 60 from by first | exact oz_bb3b55ee85 e11 k128_4 | omega) (show 0 ≤ (pf5 13).toInt from by first | exact oz_75207bdd89 e12 k128_8 g5 k128_7 | omega) (show (pf5 13).toInt ≤ (pf5 11).toInt + 10 from by first | exact oz_36e52797e4 e8 e12 k128_9 g6 | omega) (show 0 ≤ (pf5 26).toInt from by first | exact oz_e2fef14871 e15 k128_2 g7 | omega) (show (pf5 26).toInt ≤ (pf5 12).toInt from by first | exact oz_956f9fd0b2 e11 e15 k128_2 k128_3 g8 | omega) (show 61 ≤ (pf5 12).toInt + ((lv - 1 : Nat) : Int) from by first | with_reducible rfl | with_reducible assumption | omega) (show lv - 1 ≤ 61 from by first | with_reducible rfl | with_reducible assumption | omega) hlf htk (FsI.le (N' := (pf5 13).toInt) hfs (by first | with_reducible rfl | with_reducible assumption | omega))) S hT hw (oX_call (P := (fun A U H => (oN A U H) ∧ (oP A g U H))) (pr := []) (oG_and oG_N oG_P) hw hA ⟨hN, hP⟩) (px_recv hT hw 0 0 rfl rfl rfl) m12_101 m12_98 m12_100 ms_10_10 m1_21 q_Mpg_statement ⟨show (8 * (lv - 1) + 28) + 1 ≤ (8 * lv + 26) from by first | with_reducible rfl | with_reducible assumption | omega, show 8 + (2 + 11) + (220 * (lv - 1) + 1280) ≤ (220 * lv + 1200) from by first | with_reducible rfl | with_reducible assumption | omega⟩ hl.1 rfl (Nat.le_of_ble_eq_true rfl) d_Mpg_forLoop_140 ⟨Nat.le_of_ble_eq_true rfl, Nat.le_of_ble_eq_true rfl⟩ hne hlk hA hAe (fun o t h => Or.inr h) ?_ (fun v25 p24 H locs hp24 hw => ?_)
    · exact fun p1 H1 locs1 hp hw => by obtain ⟨pq1, pq2, pq3, pq4, rfl, hq1, hq2⟩ := hp; exact ⟨_, ⟨pq1, pq2, pq3, pq4, rfl, hq1, hq2⟩, hw⟩
    obtain ⟨pf20, na21, ma22, wa23, rfl, e26, e27, e28, e29, e30, e31, e32, e33, e34, e35, e36, e37, e38⟩ := hp24
    have e26 : (pf5 11).toInt + 1 ≤ (pf20 11).toInt := e26
    have e27 : (pf20 11).toInt < (tf 6).toInt := e27
    have e28 : (pf5 13).toInt + 1 ≤ (pf20 13).toInt := e28
    have e29 : (pf20 13).toInt - (pf5 13).toInt ≤ (pf20 11).toInt - (pf5 11).toInt := e29
    have e30 : bp ta (pf5 11) + 1 ≤ bp ta (pf20 11) := e30
    have e31 : (pf20 12).toInt = (pf5 12).toInt := e31
    have e32 : (pf20 24).toInt = (pf5 24).toInt := e32
    have e33 : (pf20 25).toInt = (pf5 25).toInt := e33
    have e34 : (pf20 26).toInt = (pf5 26).toInt := e34
    have e35 : FrB (pf5 13).toInt na_128 ma_128 na21 ma22 := e35
    have hf_14_x128_1 := (fb_n e35 (by first | with_reducible rfl | with_reducible assumption | omega) (by first | with_reducible rfl | with_reducible assumption | omega)).trans hf_14_x128_1
    have hf_15_x128_1 := (fb_n e35 (by first | with_reducible rfl | with_reducible assumption | omega) (by first | with_reducible rfl | with_reducible assumption | omega)).trans hf_15_x128_1
    have hf_21_x128_1 := (fb_n e35 (by first | with_reducible rfl | with_reducible assumption | omega) (by first | with_reducible rfl | with_reducible assumption | omega)).trans hf_21_x128_1
    have hfo := hfo.kp e35 (by first | with_reducible rfl | with_reducible assumption | omega) (by first | with_reducible rfl | with_reducible assumption | omega) (by first | with_reducible rfl | with_reducible assumption | omega)
    have hfb := hfb.tr e35 (by first | with_reducible rfl | with_reducible assumption | omega)
    have e36 : FrW (pf5 26).toInt wa_128 wa23 := e36
    have hfw := hfw.tr e36 (by first | with_reducible rfl | with_reducible assumption | omega)
    have e37 : VlS ta (tf 6).toInt na21 ma22 v25 (pf5 13).toInt (pf20 13).toInt (3 * (bp ta (pf20 11) - bp ta (pf5 11))) (200 - (pf5 12).toInt) := e37
    have hv_v25 := e37
    have hn_hv_v25 := hv_v25.num fs_ok
    have e38 : FsI (tf 6).toInt (pf20 13).toInt na21 := e38
    have hfs := e38
    have hw : pw D A s.heap H locs [wdP cs h r g tf ta pf20 na21 ma22 wa23 cf ca ef ea xf xa] := hw
    have lv25 := Int32.le_toInt v25
    have uv25 := Int32.toInt_lt v25
    refine px_iast S hT hw 0 16 (n := 2100) (f := (ma22 20)) (x := x128_1) (y := v25) rfl gp_20 (vp_in_iff.mpr (by constructor <;> omega)) d_Mpg_forLoop_143 (w' := wdP cs h r g tf ta pf20 na21 (va_up ma22 20 (upd (ma22 20) x128_1.toNatClampNeg v25)) wa23 cf ca ef ea xf xa) (ps' := [wdP cs h r g tf ta pf20 na21 (va_up ma22 20 (upd (ma22 20) x128_1.toNatClampNeg v25)) wa23 cf ca ef ea xf xa]) sp_20 rfl (fun H locs hw => ?_)
    obtain ⟨ma39, hu_ma39⟩ : ∃ y : Nat → Nat → Int32, y = va_up ma22 20 (upd (ma22 20) x128_1.toNatClampNeg v25) := ⟨_, rfl⟩
    have hw : pw D A s.heap _ _ [wdP cs h r g tf ta pf20 na21 ma39 wa23 cf ca ef ea xf xa] := (by rw [hu_ma39]; exact hw)
    have hfo := FoV.m20 hfo (by first | with_reducible rfl | with_reducible assumption | omega) hu_ma39
    have hv_v25 := hv_v25.ag fs_ok (ag_m hu_ma39 (by first | with_reducible rfl | with_reducible assumption | omega) (by first | with_reducible rfl | with_reducible assumption | omega))
    have hf_20_x128_1 : ma39 20 x128_1.toNatClampNeg = v25 := (by rw [hu_ma39, va_up_s, pk_us])
    have hfb : FrB (pf 13).toInt na ma na21 ma39 := (by rw [hu_ma39]; exact FrB.um hfb (by first | with_reducible rfl | with_reducible assumption | omega) (by first | with_reducible rfl | with_reducible assumption | omega))
    refine lv_aload_n S.x S.b d_Mpg_forLoop_144 rfl (lv_at hl 0 rfl) ?_
    refine lv_dup S.x S.b d_Mpg_forLoop_145 rfl ?_
    refine px_get S k_Mpg hT hw 0 0 12 (v := .int (pf20 12)) rfl rfl rfl (by decide) m9_236 d_Mpg_forLoop_146 ?_
    refine lv_iconst (v := 1) S.x S.b d_Mpg_forLoop_149 (by decide) ?_
    refine lv_isub S.x S.b d_Mpg_forLoop_150 ?_
    have lr40 := Int32.le_toInt (pf20 12)
    have ur40 := Int32.toInt_lt (pf20 12)
    refine lv_topi (fun z41 ez41 => ?_)
    have tz41 : z41.toInt = ((pf20 12).toInt - (1 : Int) + 2147483648) % 4294967296 - 2147483648 := by rw [ez41]; exact i_sub (pf20 12) 1
    have lz41 := Int32.le_toInt z41
    have uz41 := Int32.toInt_lt z41
    try replace tz41 : z41.toInt = (pf20 12).toInt - (1 : Int) := by omega
    refine px_put S k_Mpg hT hw 0 0 12 rfl rfl (by decide) m9_236 rfl rfl rfl (Nat.le_of_ble_eq_true rfl) d_Mpg_forLoop_151 (w' := wdP cs h r g tf ta (upd pf20 12 z41) na21 ma39 wa23 cf ca ef ea xf xa) (ps' := [wdP cs h r g tf ta (upd pf20 12 z41) na21 ma39 wa23 cf ca ef ea xf xa]) rfl rfl (fun H locs hw => ?_)
    refine lv_iload_n S.x S.b d_Mpg_forLoop_154 rfl (lv_at hl 1 rfl) ?_
    exact th_iret (v := x128_1) S hr rfl hlk hAe hw (⟨(upd pf20 12 z41), na21, ma39, wa23, rfl, (show (pf 11).toInt + 1 ≤ (pf20 11).toInt from by first | exact oz_656724b158 k128_5 e26 e8 | omega), (show (pf20 11).toInt < (tf 6).toInt from by first | exact e27 | omega), (show (pf 13).toInt + 1 ≤ (pf20 13).toInt from by first | exact oz_a203c9a09d k128_7 e28 k128_8 e12 | omega), (show (pf20 13).toInt - (pf 13).toInt ≤ (pf20 11).toInt - (pf 11).toInt from by first | exact oz_917b179b80 k128_9 e29 e8 e12 | omega), (show bp ta (pf 11) + 1 ≤ bp ta (pf20 11) from by first | with_reducible rfl | with_reducible assumption | omega), (show z41.toInt = (pf 12).toInt from by first | exact oz_0e56616eb8 k128_3 tz41 e11 e31 | omega), (show (pf20 24).toInt = (pf 24).toInt from by first | exact oz_e13fc83238 k128_0 e32 e13 | omega), (show (pf20 25).toInt = (pf 25).toInt from by first | exact oz_e13fc83238 k128_1 e33 e14 | omega), (show (pf20 26).toInt = (pf 26).toInt from by first | exact oz_e13fc83238 k128_2 e34 e15 | omega), (show FrB (pf 13).toInt na ma na21 ma39 from hfb), (show FrW (pf 26).toInt wa wa23 from hfw), (show VlS ta (tf 6).toInt na21 ma39 x128_1 (pf 13).toInt (pf20 13).toInt (3 * (bp ta (pf20 11) - bp ta (pf 11))) (200 - (pf 12).toInt) from (VlV.le (FoV.fin hfo ⟨by first | with_reducible rfl | with_reducible assumption | omega, hf_14_x128_1, hf_15_x128_1, ⟨by first | with_reducible rfl | with_reducible assumption | omega, by first | with_reducible rfl | with_reducible assumption | omega⟩, hf_21_x128_1⟩ (by first | with_reducible rfl | with_reducible assumption | omega) hf_20_x128_1 (VlV.le hv_v25 (by first | with_reducible rfl | with_reducible assumption | omega) (Int.le_refl _) (Int.le_refl _) (by first | with_reducible rfl | with_reducible assumption | omega))) (by first | with_reducible rfl | with_reducible assumption | omega) (by first | with_reducible rfl | with_reducible assumption | omega) (by first | with_reducible rfl | with_reducible assumption | omega) (by first | with_reducible rfl | with_reducible assumption | omega))), (show FsI (tf 6).toInt (pf20 13).toInt na21 from (FsI.le hfs (by first | with_reducible rfl | with_reducible assumption | omega)))⟩) d_Mpg_forLoop_155
  have J103 : ∀ (pf_103 : Nat → Int32) (na_103 : Nat → Nat → Int32) (ma_103 : Nat → Nat → Int32) (wa_103 : Nat → Nat → Int32) (x103_1 : Int32) (H : Heap) (locs : List Loc) (ls : Array Slot), ((pf_103 24).toInt = (pf 24).toInt) → ((pf_103 25).toInt = (pf 25).toInt) → ((pf_103 26).toInt = (pf 26).toInt) → ((pf_103 12).toInt = (pf 12).toInt + 2) → ((pf_103 12).toInt ≤ 60) → ((pf 11).toInt + 2 ≤ (pf_103 11).toInt) → ((pf_103 11).toInt < (tf 6).toInt) → (x103_1.toInt = (pf 13).toInt) → (x103_1.toInt < (pf_103 13).toInt) → ((pf_103 13).toInt - (pf 13).toInt + 1 ≤ (pf_103 11).toInt - (pf 11).toInt) → (bp ta (pf 11) + 2 ≤ bp ta (pf_103 11)) → (FrB (pf 13).toInt na ma na_103 ma_103) → (FrW (pf 26).toInt wa wa_103) → (NdF (tf 6).toInt na_103 x103_1 27 (pf 11)) → (FoV ta (tf 6).toInt na_103 ma_103 1 x103_1 (pf_103 13).toInt (3 * (bp ta (pf_103 11) - bp ta (pf 11)) - 5) (199 - (pf 12).toInt)) → (FsI (tf 6).toInt (pf_103 13).toInt na_103) → pw D A s.heap H locs [wdP cs h r g tf ta pf_103 na_103 ma_103 wa_103 cf ca ef ea xf xa] → lv_has ls 3 [(0, .ref h), (1, .int x103_1)] → W p l e { frames := (8 * lv + 26), cells := 1, slots := 6, locals := (220 * lv + 1200) } s m [.ref h].toArray below meth c H locs 0 0 (tx_MQ below (thQi D (va_A ([wdP cs h r g tf ta pf na ma wa cf ca ef ea xf xa] : List va_W).flatten s.heap.size) "java/lang/IllegalArgumentException" (fun v ps => ∃ (pf' : Nat → Int32) (na' : Nat → Nat → Int32) (ma' : Nat → Nat → Int32) (wa' : Nat → Nat → Int32), (ps = [wdP cs h r g tf ta pf' na' ma' wa' cf ca ef ea xf xa]) ∧ ((pf 11).toInt + 1 ≤ (pf' 11).toInt) ∧ ((pf' 11).toInt < (tf 6).toInt) ∧ ((pf 13).toInt + 1 ≤ (pf' 13).toInt) ∧ ((pf' 13).toInt - (pf 13).toInt ≤ (pf' 11).toInt - (pf 11).toInt) ∧ (bp ta (pf 11) + 1 ≤ bp ta (pf' 11)) ∧ ((pf' 12).toInt = (pf 12).toInt) ∧ ((pf' 24).toInt = (pf 24).toInt) ∧ ((pf' 25).toInt = (pf 25).toInt) ∧ ((pf' 26).toInt = (pf 26).toInt) ∧ (FrB (pf 13).toInt na ma na' ma') ∧ (FrW (pf 26).toInt wa wa') ∧ (VlS ta (tf 6).toInt na' ma' v (pf 13).toInt (pf' 13).toInt (3 * (bp ta (pf' 11) - bp ta (pf 11))) (200 - (pf 12).toInt)) ∧ (FsI (tf 6).toInt (pf' 13).toInt na')) (fun ps => ∃ (pf' : Nat → Int32) (na' : Nat → Nat → Int32) (ma' : Nat → Nat → Int32) (wa' : Nat → Nat → Int32), ps = [wdP cs h r g tf ta pf' na' ma' wa' cf ca ef ea xf xa] ∧ 0 ≤ (pf' 11).toInt ∧ (pf' 11).toInt + 1 ≤ (tf 6).toInt) s.heap.size (tot s.heap)) [.ref h].toArray s 1 6 A) (F0 m 103 ls []) := by
    intro pf_103 na_103 ma_103 wa_103 x103_1 H locs ls k103_0 k103_1 k103_2 k103_3 k103_4 k103_5 k103_6 k103_7 k103_8 k103_9 k103_10 k103_11 k103_12 k103_13 k103_14 k103_15 hw hl
    have lx103_1 := Int32.le_toInt x103_1
    have ux103_1 := Int32.toInt_lt x103_1
    have hfb := k103_11
    have hfw := k103_12
    have hf_14_x103_1 := k103_13.2.1
    have hf_15_x103_1 := k103_13.2.2.1
    have hf_21_x103_1 := k103_13.2.2.2.2
    have hnt_x103_1 := k103_13.2.2.2.1
    have hfo := k103_14
    have hwfo := hfo.wpos
    have hfs := k103_15
    refine lv_aload_n S.x S.b d_Mpg_forLoop_103 rfl (lv_at hl 0 rfl) ?_
    obtain ⟨sk42, hRsk42, st43, sb44, hSsk42⟩ := oP_lit hP (k := 101) (tx := ";") (n := 1) (List.mem_of_getElem? (i := 42) rfl)
    refine va_ldcS S.x S.b S.own hRsk42 d_Mpg_forLoop_104 ?_
    refine th_callv (ps0 := [wdP cs h r g tf ta pf na ma wa cf ca ef ea xf xa]) (pr := []) (pcs := [wdP cs h r g tf ta pf_103 na_103 ma_103 wa_103 cf ca ef ea xf xa]) (As := [.ref sk42]) (rest := []) (c_mp_take l D cs sk42 1 h r g tf ta na_103 ma_103 wa_103 cf ca ef ea xf xa pf_103   (show 0 ≤ (pf_103 11).toInt from by first | exact oz_f101e7799b k103_5 g0 | omega) (show (pf_103 11).toInt < (tf 6).toInt from by first | exact k103_6 | omega) (show (tf 6).toInt ≤ 2049 from by first | exact g2 | omega) (show 1 ≤ 100 from by first | decide | omega) hlf htk) S hT hw (oX_call (P := (fun A U H => (oN A U H) ∧ (oP A g U H) ∧ (StS A sk42 1 U H))) (pr := []) (oG_and oG_N (oG_and oG_P oG_Q)) hw hA ⟨hN, hP, ⟨_, _, hSsk42⟩⟩) (px_recv hT hw 0 0 rfl rfl rfl) m12_57 m12_54 m12_56 ms_9_15 m1_21 q_Mpg_take ⟨show 7 + 1 ≤ (8 * lv + 26) from by first | with_reducible rfl | with_reducible assumption | omega, show 8 + (2 + 11) + 230 ≤ (220 * lv + 1200) from by first | with_reducible rfl | with_reducible assumption | omega⟩ hl.1 rfl (Nat.le_of_ble_eq_true rfl) d_Mpg_forLoop_106 ⟨Nat.le_of_ble_eq_true rfl, Nat.le_of_ble_eq_true rfl⟩ hne hlk hA hAe (fun o t h => Or.inr h) ?_ (fun p47 H locs hp47 hw => ?_)
    · exact fun p1 H1 locs1 hp hw => by obtain ⟨pq1, pq2, pq3, pq4, rfl, hq1, hq2⟩ := hp; exact ⟨_, ⟨pq1, pq2, pq3, pq4, rfl, hq1, hq2⟩, hw⟩
    obtain ⟨pf46, rfl, e49, e50, e51, e52, e53, e54, e55, e56⟩ := hp47
    have e49 : (pf46 11).toInt = (pf_103 11).toInt + 1 := e49
    have e50 : (pf46 11).toInt < (tf 6).toInt := e50
    have e51 : bp ta (pf_103 11) + 1 ≤ bp ta (pf46 11) := e51
    have e52 : (pf46 12).toInt = (pf_103 12).toInt := e52
    have e53 : (pf46 13).toInt = (pf_103 13).toInt := e53
    have e54 : (pf46 24).toInt = (pf_103 24).toInt := e54
    have e55 : (pf46 25).toInt = (pf_103 25).toInt := e55
    have e56 : (pf46 26).toInt = (pf_103 26).toInt := e56
    have hw : pw D A s.heap H locs [wdP cs h r g tf ta pf46 na_103 ma_103 wa_103 cf ca ef ea xf xa] := hw
    refine lv_aload_n S.x S.b d_Mpg_forLoop_109 rfl (lv_at hl 0 rfl) ?_
    obtain ⟨sk57, hRsk57, st58, sb59, hSsk57⟩ := oP_lit hP (k := 89) (tx := ")") (n := 1) (List.mem_of_getElem? (i := 36) rfl)
    refine va_ldcS S.x S.b S.own hRsk57 d_Mpg_forLoop_110 ?_
    refine px_calli (pr := []) (px_runV (As := [.ref sk57]) (rest := []) S (c_mp_is l D cs sk57 1 h r g tf ta pf46 na_103 ma_103 wa_103 cf ca ef ea xf xa   (show 0 ≤ (pf46 11).toInt from by first | exact oz_632d55c52e e49 k103_5 g0 | omega) (show (pf46 11).toInt < (tf 6).toInt from by first | exact e50 | omega) (show (tf 6).toInt ≤ 2049 from by first | exact g2 | omega) (show 1 ≤ 100 from by first | decide | omega) htk _) hT (pr := []) (pcs := [wdP cs h r g tf ta pf46 na_103 ma_103 wa_103 cf ca ef ea xf xa]) hw (oX_call (P := (fun A U H => (oP A g U H) ∧ (StS A sk57 1 U H))) (pr := []) (oG_and oG_P oG_Q) hw hA ⟨hP, ⟨_, _, hSsk57⟩⟩) (px_recv hT hw 0 0 rfl rfl rfl) m11_217 m11_214 m11_216 ms_8_14 m1_21 q_Mpg_is ⟨show 3 + 1 ≤ (8 * lv + 26) from by first | with_reducible rfl | with_reducible assumption | omega, show 8 + (2 + 11) + 120 ≤ (220 * lv + 1200) from by first | with_reducible rfl | with_reducible assumption | omega⟩ hl.1 rfl (Nat.le_of_ble_eq_true rfl) d_Mpg_forLoop_112 ⟨Nat.le_of_ble_eq_true rfl, Nat.le_of_ble_eq_true rfl⟩) hw hA (fun v61 p60 H locs hp60 hw => ?_)
    obtain ⟨rfl, e62, e63⟩ := hp60
    have e62 := z_rng e62
    have e63 : v61.toInt = 1 → (pf46 11).toInt + 1 < (tf 6).toInt ∧ so ta (pf46 11) = 5 := e63
    have hw : pw D A s.heap H locs [wdP cs h r g tf ta pf46 na_103 ma_103 wa_103 cf ca ef ea xf xa] := hw
    have lv61 := Int32.le_toInt v61
    have uv61 := Int32.toInt_lt v61
    refine lv_if_ne (tgt := 128) S.x S.b d_Mpg_forLoop_115 (by decide) (fun c64 => ?_) (fun c64 => ?_)
    · have nc64 : ¬ v61.toInt = (0 : Int) := mt (i_eq (x := v61) (y := 0)).mpr c64
      exact J128 pf46 na_103 ma_103 wa_103 x103_1 _ _ ls (show (pf46 24).toInt = (pf 24).toInt from by first | exact oz_1687f4cc65 k103_0 e54 | omega) (show (pf46 25).toInt = (pf 25).toInt from by first | exact oz_1687f4cc65 k103_1 e55 | omega) (show (pf46 26).toInt = (pf 26).toInt from by first | exact oz_1687f4cc65 k103_2 e56 | omega) (show (pf46 12).toInt = (pf 12).toInt + 2 from by first | exact oz_29ee0aead2 k103_3 e52 | omega) (show (pf46 12).toInt ≤ 60 from by first | exact oz_a3db38fa3c e52 k103_4 | omega) (show (pf 11).toInt + 2 ≤ (pf46 11).toInt from by first | exact oz_8515458490 k103_5 e49 | omega) (show (pf46 11).toInt < (tf 6).toInt from by first | exact e50 | omega) (show x103_1.toInt = (pf 13).toInt from by first | exact k103_7 | omega) (show x103_1.toInt < (pf46 13).toInt from by first | exact oz_5544c44f8d k103_8 e53 | omega) (show (pf46 13).toInt - (pf 13).toInt + 1 ≤ (pf46 11).toInt - (pf 11).toInt from by first | exact oz_f69b4fd1cb k103_9 e49 e53 | omega) (show bp ta (pf 11) + 2 ≤ bp ta (pf46 11) from by first | with_reducible rfl | with_reducible assumption | omega) (show FrB (pf 13).toInt na ma na_103 ma_103 from hfb) (show FrW (pf 26).toInt wa wa_103 from hfw) (show NdF (tf 6).toInt na_103 x103_1 27 (pf 11) from ⟨by first | with_reducible rfl | with_reducible assumption | omega, hf_14_x103_1, hf_15_x103_1, ⟨by first | with_reducible rfl | with_reducible assumption | omega, by first | with_reducible rfl | with_reducible assumption | omega⟩, hf_21_x103_1⟩) (show FoV ta (tf 6).toInt na_103 ma_103 2 x103_1 (pf46 13).toInt (3 * (bp ta (pf46 11) - bp ta (pf 11)) - 5) (199 - (pf 12).toInt) from (FoV.le hfo (by first | with_reducible rfl | with_reducible assumption | omega) (by first | with_reducible rfl | with_reducible assumption | omega) (by decide))) (show FsI (tf 6).toInt (pf46 13).toInt na_103 from (FsI.le hfs (by first | with_reducible rfl | with_reducible assumption | omega))) hw (lv_sub hl [0, 1] rfl)
    · have nc64 : v61.toInt = (0 : Int) := (i_eq (x := v61) (y := 0)).mp c64
      refine lv_aload_n S.x S.b d_Mpg_forLoop_118 rfl (lv_at hl 0 rfl) ?_
      refine px_get S k_Mpg hT hw 0 0 19 (v := .ref (r 19)) rfl rfl rfl (by decide) m10_5 d_Mpg_forLoop_119 ?_
      refine lv_iload_n S.x S.b d_Mpg_forLoop_122 rfl (lv_at hl 1 rfl) ?_
      refine lv_aload_n S.x S.b d_Mpg_forLoop_123 rfl (lv_at hl 0 rfl) ?_
      refine th_calli (ps0 := [wdP cs h r g tf ta pf na ma wa cf ca ef ea xf xa]) (pr := []) (pcs := [wdP cs h r g tf ta pf46 na_103 ma_103 wa_103 cf ca ef ea xf xa]) (As := []) (rest := [.int x103_1, .ref (r 19)]) (c_S_expression l D cs h r g tf ta cf ca ef ea xf xa pf46 na_103 ma_103 wa_103  lv (show 0 ≤ (pf46 11).toInt from by first | exact oz_632d55c52e e49 k103_5 g0 | omega) (show (pf46 11).toInt < (tf 6).toInt from by first | exact e50 | omega) (show (tf 6).toInt ≤ 2049 from by first | exact g2 | omega) (show 0 ≤ (pf46 12).toInt from by first | exact oz_fb3ccc32d0 e52 k103_3 g8 g7 | omega) (show (pf46 12).toInt ≤ 60 from by first | exact oz_a3db38fa3c e52 k103_4 | omega) (show 0 ≤ (pf46 13).toInt from by first | exact oz_75207bdd89 e53 k103_8 g5 k103_7 | omega) (show (pf46 13).toInt ≤ (pf46 11).toInt + 20 from by first | exact oz_9da1e151e3 e49 e53 k103_9 g6 | omega) (show 0 ≤ (pf46 26).toInt from by first | exact oz_e2fef14871 e56 k103_2 g7 | omega) (show (pf46 26).toInt ≤ (pf46 12).toInt from by first | exact oz_c2bcecd9e0 e52 e56 k103_2 k103_3 g8 | omega) (show 61 ≤ (pf46 12).toInt + (lv : Int) from by first | exact oz_0124fbd43e g9 e52 k103_3 | omega) (show lv ≤ 61 from by first | exact g10 | omega) hlf htk (FsI.le (N' := (pf46 13).toInt) hfs (by first | with_reducible rfl | with_reducible assumption | omega))) S hT hw (oX_call (P := (fun A U H => (oN A U H) ∧ (oP A g U H))) (pr := []) (oG_and oG_N oG_P) hw hA ⟨hN, hP⟩) (px_recv hT hw 0 0 rfl rfl rfl) m12_38 m12_35 m12_37 ms_9_11 m1_21 q_Mpg_expression ⟨show (8 * lv + 20) + 1 ≤ (8 * lv + 26) from by first | with_reducible rfl | with_reducible assumption | omega, show 8 + (7 + 11) + (220 * lv + 720) ≤ (220 * lv + 1200) from by first | with_reducible rfl | with_reducible assumption | omega⟩ hl.1 rfl (Nat.le_of_ble_eq_true rfl) d_Mpg_forLoop_124 ⟨Nat.le_of_ble_eq_true rfl, Nat.le_of_ble_eq_true rfl⟩ hne hlk hA hAe (fun o t h => Or.inr h) ?_ (fun v74 p73 H locs hp73 hw => ?_)
      · exact fun p1 H1 locs1 hp hw => by obtain ⟨pq1, pq2, pq3, pq4, rfl, hq1, hq2⟩ := hp; exact ⟨_, ⟨pq1, pq2, pq3, pq4, rfl, hq1, hq2⟩, hw⟩
      obtain ⟨pf69, na70, ma71, wa72, rfl, e75, e76, e77, e78, e79, e80, e81, e82, e83, e84, e85, e86, e87⟩ := hp73
      have e75 : (pf46 11).toInt + 1 ≤ (pf69 11).toInt := e75
      have e76 : (pf69 11).toInt < (tf 6).toInt := e76
      have e77 : (pf46 13).toInt + 1 ≤ (pf69 13).toInt := e77
      have e78 : (pf69 13).toInt - (pf46 13).toInt ≤ (pf69 11).toInt - (pf46 11).toInt := e78
      have e79 : bp ta (pf46 11) + 1 ≤ bp ta (pf69 11) := e79
      have e80 : (pf69 12).toInt = (pf46 12).toInt := e80
      have e81 : (pf69 24).toInt = (pf46 24).toInt := e81
      have e82 : (pf69 25).toInt = (pf46 25).toInt := e82
      have e83 : (pf69 26).toInt = (pf46 26).toInt := e83
      have e84 : FrB (pf46 13).toInt na_103 ma_103 na70 ma71 := e84
      have hf_14_x103_1 := (fb_n e84 (by first | with_reducible rfl | with_reducible assumption | omega) (by first | with_reducible rfl | with_reducible assumption | omega)).trans hf_14_x103_1
      have hf_15_x103_1 := (fb_n e84 (by first | with_reducible rfl | with_reducible assumption | omega) (by first | with_reducible rfl | with_reducible assumption | omega)).trans hf_15_x103_1
      have hf_21_x103_1 := (fb_n e84 (by first | with_reducible rfl | with_reducible assumption | omega) (by first | with_reducible rfl | with_reducible assumption | omega)).trans hf_21_x103_1
      have hfo := hfo.kp e84 (by first | with_reducible rfl | with_reducible assumption | omega) (by first | with_reducible rfl | with_reducible assumption | omega) (by first | with_reducible rfl | with_reducible assumption | omega)
      have hfb := hfb.tr e84 (by first | with_reducible rfl | with_reducible assumption | omega)
      have e85 : FrW (pf46 26).toInt wa_103 wa72 := e85
      have hfw := hfw.tr e85 (by first | with_reducible rfl | with_reducible assumption | omega)
      have e86 : ExR ta (tf 6).toInt na70 ma71 v74 (pf46 13).toInt (pf69 13).toInt (3 * (bp ta (pf69 11) - bp ta (pf46 11))) (pf46 12).toInt := e86
      have ht_v74 := e86
      have hn_ht_v74 := ht_v74.num
      have e87 : FsI (tf 6).toInt (pf69 13).toInt na70 := e87
      have hfs := e87
      have hw : pw D A s.heap H locs [wdP cs h r g tf ta pf69 na70 ma71 wa72 cf ca ef ea xf xa] := hw
      have lv74 := Int32.le_toInt v74
      have uv74 := Int32.toInt_lt v74
      refine px_iast S hT hw 0 15 (n := 2100) (f := (ma71 19)) (x := x103_1) (y := v74) rfl gp_19 (vp_in_iff.mpr (by constructor <;> omega)) d_Mpg_forLoop_127 (w' := wdP cs h r g tf ta pf69 na70 (va_up ma71 19 (upd (ma71 19) x103_1.toNatClampNeg v74)) wa72 cf ca ef ea xf xa) (ps' := [wdP cs h r g tf ta pf69 na70 (va_up ma71 19 (upd (ma71 19) x103_1.toNatClampNeg v74)) wa72 cf ca ef ea xf xa]) sp_19 rfl (fun H locs hw => ?_)
      obtain ⟨ma88, hu_ma88⟩ : ∃ y : Nat → Nat → Int32, y = va_up ma71 19 (upd (ma71 19) x103_1.toNatClampNeg v74) := ⟨_, rfl⟩
      have hw : pw D A s.heap _ _ [wdP cs h r g tf ta pf69 na70 ma88 wa72 cf ca ef ea xf xa] := (by rw [hu_ma88]; exact hw)
      have hfo := FoV.setC hfo (by first | with_reducible rfl | with_reducible assumption | omega) hu_ma88 (VlV.le (exr_vl ht_v74 (by first | with_reducible rfl | with_reducible assumption | omega)) (by first | with_reducible rfl | with_reducible assumption | omega) (Int.le_refl _) (Int.le_refl _) (by first | with_reducible rfl | with_reducible assumption | omega))
      have hwfo := hfo.wpos
      obtain ⟨ht_v74, hdq_v74⟩ := ht_v74.ag (ag_m hu_ma88 (by first | with_reducible rfl | with_reducible assumption | omega) (by first | with_reducible rfl | with_reducible assumption | omega)) (by first | with_reducible rfl | with_reducible assumption | omega)
      have hn_ht_v74 := ht_v74.num
      have hf_19_x103_1 : ma88 19 x103_1.toNatClampNeg = v74 := (by rw [hu_ma88, va_up_s, pk_us])
      have hfb : FrB (pf 13).toInt na ma na70 ma88 := (by rw [hu_ma88]; exact FrB.um hfb (by first | with_reducible rfl | with_reducible assumption | omega) (by first | with_reducible rfl | with_reducible assumption | omega))
      exact J128 pf69 na70 ma88 wa72 x103_1 _ _ ls (show (pf69 24).toInt = (pf 24).toInt from by first | exact oz_e13fc83238 k103_0 e81 e54 | omega) (show (pf69 25).toInt = (pf 25).toInt from by first | exact oz_e13fc83238 k103_1 e82 e55 | omega) (show (pf69 26).toInt = (pf 26).toInt from by first | exact oz_e13fc83238 k103_2 e83 e56 | omega) (show (pf69 12).toInt = (pf 12).toInt + 2 from by first | exact oz_4fb0b9a079 k103_3 e80 e52 | omega) (show (pf69 12).toInt ≤ 60 from by first | exact oz_d791cd839d e80 e52 k103_4 | omega) (show (pf 11).toInt + 2 ≤ (pf69 11).toInt from by first | exact oz_755e8a621b k103_5 e75 e49 | omega) (show (pf69 11).toInt < (tf 6).toInt from by first | exact e76 | omega) (show x103_1.toInt = (pf 13).toInt from by first | exact k103_7 | omega) (show x103_1.toInt < (pf69 13).toInt from by first | exact oz_0034474f04 k103_8 e77 e53 | omega) (show (pf69 13).toInt - (pf 13).toInt + 1 ≤ (pf69 11).toInt - (pf 11).toInt from by first | exact oz_82dc00f901 k103_9 e78 e49 e53 | omega) (show bp ta (pf 11) + 2 ≤ bp ta (pf69 11) from by first | with_reducible rfl | with_reducible assumption | omega) (show FrB (pf 13).toInt na ma na70 ma88 from hfb) (show FrW (pf 26).toInt wa wa72 from hfw) (show NdF (tf 6).toInt na70 x103_1 27 (pf 11) from ⟨by first | with_reducible rfl | with_reducible assumption | omega, hf_14_x103_1, hf_15_x103_1, ⟨by first | with_reducible rfl | with_reducible assumption | omega, by first | with_reducible rfl | with_reducible assumption | omega⟩, hf_21_x103_1⟩) (show FoV ta (tf 6).toInt na70 ma88 2 x103_1 (pf69 13).toInt (3 * (bp ta (pf69 11) - bp ta (pf 11)) - 5) (199 - (pf 12).toInt) from (FoV.le hfo (by first | with_reducible rfl | with_reducible assumption | omega) (by first | with_reducible rfl | with_reducible assumption | omega) (by decide))) (show FsI (tf 6).toInt (pf69 13).toInt na70 from (FsI.le hfs (by first | with_reducible rfl | with_reducible assumption | omega))) hw (lv_sub hl [0, 1] rfl)
  have J84 : ∀ (pf_84 : Nat → Int32) (na_84 : Nat → Nat → Int32) (ma_84 : Nat → Nat → Int32) (wa_84 : Nat → Nat → Int32) (x84_1 : Int32) (H : Heap) (locs : List Loc) (ls : Array Slot), ((pf_84 24).toInt = (pf 24).toInt) → ((pf_84 25).toInt = (pf 25).toInt) → ((pf_84 26).toInt = (pf 26).toInt) → ((pf_84 12).toInt = (pf 12).toInt + 2) → ((pf_84 12).toInt ≤ 60) → ((pf 11).toInt + 2 ≤ (pf_84 11).toInt) → ((pf_84 11).toInt < (tf 6).toInt) → (x84_1.toInt = (pf 13).toInt) → (x84_1.toInt < (pf_84 13).toInt) → ((pf_84 13).toInt - (pf 13).toInt + 1 ≤ (pf_84 11).toInt - (pf 11).toInt) → (bp ta (pf 11) + 2 ≤ bp ta (pf_84 11)) → (FrB (pf 13).toInt na ma na_84 ma_84) → (FrW (pf 26).toInt wa wa_84) → (NdF (tf 6).toInt na_84 x84_1 27 (pf 11)) → (FoV ta (tf 6).toInt na_84 ma_84 0 x84_1 (pf_84 13).toInt (3 * (bp ta (pf_84 11) - bp ta (pf 11)) - 5) (199 - (pf 12).toInt)) → (FsI (tf 6).toInt (pf_84 13).toInt na_84) → pw D A s.heap H locs [wdP cs h r g tf ta pf_84 na_84 ma_84 wa_84 cf ca ef ea xf xa] → lv_has ls 3 [(0, .ref h), (1, .int x84_1)] → W p l e { frames := (8 * lv + 26), cells := 1, slots := 6, locals := (220 * lv + 1200) } s m [.ref h].toArray below meth c H locs 0 0 (tx_MQ below (thQi D (va_A ([wdP cs h r g tf ta pf na ma wa cf ca ef ea xf xa] : List va_W).flatten s.heap.size) "java/lang/IllegalArgumentException" (fun v ps => ∃ (pf' : Nat → Int32) (na' : Nat → Nat → Int32) (ma' : Nat → Nat → Int32) (wa' : Nat → Nat → Int32), (ps = [wdP cs h r g tf ta pf' na' ma' wa' cf ca ef ea xf xa]) ∧ ((pf 11).toInt + 1 ≤ (pf' 11).toInt) ∧ ((pf' 11).toInt < (tf 6).toInt) ∧ ((pf 13).toInt + 1 ≤ (pf' 13).toInt) ∧ ((pf' 13).toInt - (pf 13).toInt ≤ (pf' 11).toInt - (pf 11).toInt) ∧ (bp ta (pf 11) + 1 ≤ bp ta (pf' 11)) ∧ ((pf' 12).toInt = (pf 12).toInt) ∧ ((pf' 24).toInt = (pf 24).toInt) ∧ ((pf' 25).toInt = (pf 25).toInt) ∧ ((pf' 26).toInt = (pf 26).toInt) ∧ (FrB (pf 13).toInt na ma na' ma') ∧ (FrW (pf 26).toInt wa wa') ∧ (VlS ta (tf 6).toInt na' ma' v (pf 13).toInt (pf' 13).toInt (3 * (bp ta (pf' 11) - bp ta (pf 11))) (200 - (pf 12).toInt)) ∧ (FsI (tf 6).toInt (pf' 13).toInt na')) (fun ps => ∃ (pf' : Nat → Int32) (na' : Nat → Nat → Int32) (ma' : Nat → Nat → Int32) (wa' : Nat → Nat → Int32), ps = [wdP cs h r g tf ta pf' na' ma' wa' cf ca ef ea xf xa] ∧ 0 ≤ (pf' 11).toInt ∧ (pf' 11).toInt + 1 ≤ (tf 6).toInt) s.heap.size (tot s.heap)) [.ref h].toArray s 1 6 A) (F0 m 84 ls []) := by
    intro pf_84 na_84 ma_84 wa_84 x84_1 H locs ls k84_0 k84_1 k84_2 k84_3 k84_4 k84_5 k84_6 k84_7 k84_8 k84_9 k84_10 k84_11 k84_12 k84_13 k84_14 k84_15 hw hl
    have lx84_1 := Int32.le_toInt x84_1
    have ux84_1 := Int32.toInt_lt x84_1
    have hfb := k84_11
    have hfw := k84_12
    have hf_14_x84_1 := k84_13.2.1
    have hf_15_x84_1 := k84_13.2.2.1
    have hf_21_x84_1 := k84_13.2.2.2.2
    have hnt_x84_1 := k84_13.2.2.2.1
    have hfo := k84_14
    have hwfo := hfo.wpos
    have hfs := k84_15
    refine lv_aload_n S.x S.b d_Mpg_forLoop_84 rfl (lv_at hl 0 rfl) ?_
    obtain ⟨sk89, hRsk89, st90, sb91, hSsk89⟩ := oP_lit hP (k := 101) (tx := ";") (n := 1) (List.mem_of_getElem? (i := 42) rfl)
    refine va_ldcS S.x S.b S.own hRsk89 d_Mpg_forLoop_85 ?_
    refine px_calli (pr := []) (px_runV (As := [.ref sk89]) (rest := []) S (c_mp_is l D cs sk89 1 h r g tf ta pf_84 na_84 ma_84 wa_84 cf ca ef ea xf xa   (show 0 ≤ (pf_84 11).toInt from by first | exact oz_f101e7799b k84_5 g0 | omega) (show (pf_84 11).toInt < (tf 6).toInt from by first | exact k84_6 | omega) (show (tf 6).toInt ≤ 2049 from by first | exact g2 | omega) (show 1 ≤ 100 from by first | decide | omega) htk _) hT (pr := []) (pcs := [wdP cs h r g tf ta pf_84 na_84 ma_84 wa_84 cf ca ef ea xf xa]) hw (oX_call (P := (fun A U H => (oP A g U H) ∧ (StS A sk89 1 U H))) (pr := []) (oG_and oG_P oG_Q) hw hA ⟨hP, ⟨_, _, hSsk89⟩⟩) (px_recv hT hw 0 0 rfl rfl rfl) m11_217 m11_214 m11_216 ms_8_14 m1_21 q_Mpg_is ⟨show 3 + 1 ≤ (8 * lv + 26) from by first | with_reducible rfl | with_reducible assumption | omega, show 8 + (2 + 11) + 120 ≤ (220 * lv + 1200) from by first | with_reducible rfl | with_reducible assumption | omega⟩ hl.1 rfl (Nat.le_of_ble_eq_true rfl) d_Mpg_forLoop_87 ⟨Nat.le_of_ble_eq_true rfl, Nat.le_of_ble_eq_true rfl⟩) hw hA (fun v93 p92 H locs hp92 hw => ?_)
    obtain ⟨rfl, e94, e95⟩ := hp92
    have e94 := z_rng e94
    have e95 : v93.toInt = 1 → (pf_84 11).toInt + 1 < (tf 6).toInt ∧ so ta (pf_84 11) = 5 := e95
    have hw : pw D A s.heap H locs [wdP cs h r g tf ta pf_84 na_84 ma_84 wa_84 cf ca ef ea xf xa] := hw
    have lv93 := Int32.le_toInt v93
    have uv93 := Int32.toInt_lt v93
    refine lv_if_ne (tgt := 103) S.x S.b d_Mpg_forLoop_90 (by decide) (fun c96 => ?_) (fun c96 => ?_)
    · have nc96 : ¬ v93.toInt = (0 : Int) := mt (i_eq (x := v93) (y := 0)).mpr c96
      exact J103 pf_84 na_84 ma_84 wa_84 x84_1 _ _ ls (show (pf_84 24).toInt = (pf 24).toInt from by first | exact k84_0 | omega) (show (pf_84 25).toInt = (pf 25).toInt from by first | exact k84_1 | omega) (show (pf_84 26).toInt = (pf 26).toInt from by first | exact k84_2 | omega) (show (pf_84 12).toInt = (pf 12).toInt + 2 from by first | exact k84_3 | omega) (show (pf_84 12).toInt ≤ 60 from by first | exact k84_4 | omega) (show (pf 11).toInt + 2 ≤ (pf_84 11).toInt from by first | exact k84_5 | omega) (show (pf_84 11).toInt < (tf 6).toInt from by first | exact k84_6 | omega) (show x84_1.toInt = (pf 13).toInt from by first | exact k84_7 | omega) (show x84_1.toInt < (pf_84 13).toInt from by first | exact k84_8 | omega) (show (pf_84 13).toInt - (pf 13).toInt + 1 ≤ (pf_84 11).toInt - (pf 11).toInt from by first | exact k84_9 | omega) (show bp ta (pf 11) + 2 ≤ bp ta (pf_84 11) from by first | exact k84_10 | omega) (show FrB (pf 13).toInt na ma na_84 ma_84 from hfb) (show FrW (pf 26).toInt wa wa_84 from hfw) (show NdF (tf 6).toInt na_84 x84_1 27 (pf 11) from ⟨by first | with_reducible rfl | with_reducible assumption | omega, hf_14_x84_1, hf_15_x84_1, ⟨by first | with_reducible rfl | with_reducible assumption | omega, by first | with_reducible rfl | with_reducible assumption | omega⟩, hf_21_x84_1⟩) (show FoV ta (tf 6).toInt na_84 ma_84 1 x84_1 (pf_84 13).toInt (3 * (bp ta (pf_84 11) - bp ta (pf 11)) - 5) (199 - (pf 12).toInt) from (FoV.le hfo (by first | with_reducible rfl | with_reducible assumption | omega) (by first | with_reducible rfl | with_reducible assumption | omega) (by decide))) (show FsI (tf 6).toInt (pf_84 13).toInt na_84 from (FsI.le hfs (by first | with_reducible rfl | with_reducible assumption | omega))) hw (lv_sub hl [0, 1] rfl)
    · have nc96 : v93.toInt = (0 : Int) := (i_eq (x := v93) (y := 0)).mp c96
      refine lv_aload_n S.x S.b d_Mpg_forLoop_93 rfl (lv_at hl 0 rfl) ?_
      refine px_get S k_Mpg hT hw 0 0 18 (v := .ref (r 18)) rfl rfl rfl (by decide) m10_3 d_Mpg_forLoop_94 ?_
      refine lv_iload_n S.x S.b d_Mpg_forLoop_97 rfl (lv_at hl 1 rfl) ?_
      refine lv_aload_n S.x S.b d_Mpg_forLoop_98 rfl (lv_at hl 0 rfl) ?_
      refine th_calli (ps0 := [wdP cs h r g tf ta pf na ma wa cf ca ef ea xf xa]) (pr := []) (pcs := [wdP cs h r g tf ta pf_84 na_84 ma_84 wa_84 cf ca ef ea xf xa]) (As := []) (rest := [.int x84_1, .ref (r 18)]) (c_S_expression l D cs h r g tf ta cf ca ef ea xf xa pf_84 na_84 ma_84 wa_84  lv (show 0 ≤ (pf_84 11).toInt from by first | exact oz_f101e7799b k84_5 g0 | omega) (show (pf_84 11).toInt < (tf 6).toInt from by first | exact k84_6 | omega) (show (tf 6).toInt ≤ 2049 from by first | exact g2 | omega) (show 0 ≤ (pf_84 12).toInt from by first | exact oz_1c15e031a7 k84_3 g3 | omega) (show (pf_84 12).toInt ≤ 60 from by first | exact k84_4 | omega) (show 0 ≤ (pf_84 13).toInt from by first | exact oz_36c2aaaab5 k84_8 g5 k84_7 | omega) (show (pf_84 13).toInt ≤ (pf_84 11).toInt + 20 from by first | exact oz_092eef7157 k84_9 g6 | omega) (show 0 ≤ (pf_84 26).toInt from by first | exact oz_f3ebed1ad0 k84_2 g7 | omega) (show (pf_84 26).toInt ≤ (pf_84 12).toInt from by first | exact oz_bdbcb40766 k84_2 k84_3 g8 | omega) (show 61 ≤ (pf_84 12).toInt + (lv : Int) from by first | exact oz_127efe81fe g9 k84_3 | omega) (show lv ≤ 61 from by first | exact g10 | omega) hlf htk (FsI.le (N' := (pf_84 13).toInt) hfs (by first | with_reducible rfl | with_reducible assumption | omega))) S hT hw (oX_call (P := (fun A U H => (oN A U H) ∧ (oP A g U H))) (pr := []) (oG_and oG_N oG_P) hw hA ⟨hN, hP⟩) (px_recv hT hw 0 0 rfl rfl rfl) m12_38 m12_35 m12_37 ms_9_11 m1_21 q_Mpg_expression ⟨show (8 * lv + 20) + 1 ≤ (8 * lv + 26) from by first | with_reducible rfl | with_reducible assumption | omega, show 8 + (7 + 11) + (220 * lv + 720) ≤ (220 * lv + 1200) from by first | with_reducible rfl | with_reducible assumption | omega⟩ hl.1 rfl (Nat.le_of_ble_eq_true rfl) d_Mpg_forLoop_99 ⟨Nat.le_of_ble_eq_true rfl, Nat.le_of_ble_eq_true rfl⟩ hne hlk hA hAe (fun o t h => Or.inr h) ?_ (fun v106 p105 H locs hp105 hw => ?_)
      · exact fun p1 H1 locs1 hp hw => by obtain ⟨pq1, pq2, pq3, pq4, rfl, hq1, hq2⟩ := hp; exact ⟨_, ⟨pq1, pq2, pq3, pq4, rfl, hq1, hq2⟩, hw⟩
      obtain ⟨pf101, na102, ma103, wa104, rfl, e107, e108, e109, e110, e111, e112, e113, e114, e115, e116, e117, e118, e119⟩ := hp105
      have e107 : (pf_84 11).toInt + 1 ≤ (pf101 11).toInt := e107
      have e108 : (pf101 11).toInt < (tf 6).toInt := e108
      have e109 : (pf_84 13).toInt + 1 ≤ (pf101 13).toInt := e109
      have e110 : (pf101 13).toInt - (pf_84 13).toInt ≤ (pf101 11).toInt - (pf_84 11).toInt := e110
      have e111 : bp ta (pf_84 11) + 1 ≤ bp ta (pf101 11) := e111
      have e112 : (pf101 12).toInt = (pf_84 12).toInt := e112
      have e113 : (pf101 24).toInt = (pf_84 24).toInt := e113
      have e114 : (pf101 25).toInt = (pf_84 25).toInt := e114
      have e115 : (pf101 26).toInt = (pf_84 26).toInt := e115
      have e116 : FrB (pf_84 13).toInt na_84 ma_84 na102 ma103 := e116
      have hf_14_x84_1 := (fb_n e116 (by first | with_reducible rfl | with_reducible assumption | omega) (by first | with_reducible rfl | with_reducible assumption | omega)).trans hf_14_x84_1
      have hf_15_x84_1 := (fb_n e116 (by first | with_reducible rfl | with_reducible assumption | omega) (by first | with_reducible rfl | with_reducible assumption | omega)).trans hf_15_x84_1
      have hf_21_x84_1 := (fb_n e116 (by first | with_reducible rfl | with_reducible assumption | omega) (by first | with_reducible rfl | with_reducible assumption | omega)).trans hf_21_x84_1
      have hfo := hfo.kp e116 (by first | with_reducible rfl | with_reducible assumption | omega) (by first | with_reducible rfl | with_reducible assumption | omega) (by first | with_reducible rfl | with_reducible assumption | omega)
      have hfb := hfb.tr e116 (by first | with_reducible rfl | with_reducible assumption | omega)
      have e117 : FrW (pf_84 26).toInt wa_84 wa104 := e117
      have hfw := hfw.tr e117 (by first | with_reducible rfl | with_reducible assumption | omega)
      have e118 : ExR ta (tf 6).toInt na102 ma103 v106 (pf_84 13).toInt (pf101 13).toInt (3 * (bp ta (pf101 11) - bp ta (pf_84 11))) (pf_84 12).toInt := e118
      have ht_v106 := e118
      have hn_ht_v106 := ht_v106.num
      have e119 : FsI (tf 6).toInt (pf101 13).toInt na102 := e119
      have hfs := e119
      have hw : pw D A s.heap H locs [wdP cs h r g tf ta pf101 na102 ma103 wa104 cf ca ef ea xf xa] := hw
      have lv106 := Int32.le_toInt v106
      have uv106 := Int32.toInt_lt v106
      refine px_iast S hT hw 0 14 (n := 2100) (f := (ma103 18)) (x := x84_1) (y := v106) rfl gp_18 (vp_in_iff.mpr (by constructor <;> omega)) d_Mpg_forLoop_102 (w' := wdP cs h r g tf ta pf101 na102 (va_up ma103 18 (upd (ma103 18) x84_1.toNatClampNeg v106)) wa104 cf ca ef ea xf xa) (ps' := [wdP cs h r g tf ta pf101 na102 (va_up ma103 18 (upd (ma103 18) x84_1.toNatClampNeg v106)) wa104 cf ca ef ea xf xa]) sp_18 rfl (fun H locs hw => ?_)
      obtain ⟨ma120, hu_ma120⟩ : ∃ y : Nat → Nat → Int32, y = va_up ma103 18 (upd (ma103 18) x84_1.toNatClampNeg v106) := ⟨_, rfl⟩
      have hw : pw D A s.heap _ _ [wdP cs h r g tf ta pf101 na102 ma120 wa104 cf ca ef ea xf xa] := (by rw [hu_ma120]; exact hw)
      have hfo := FoV.setB hfo (by first | with_reducible rfl | with_reducible assumption | omega) hu_ma120 (VlV.le (exr_vl ht_v106 (by first | with_reducible rfl | with_reducible assumption | omega)) (by first | with_reducible rfl | with_reducible assumption | omega) (Int.le_refl _) (Int.le_refl _) (by first | with_reducible rfl | with_reducible assumption | omega))
      have hwfo := hfo.wpos
      obtain ⟨ht_v106, hdq_v106⟩ := ht_v106.ag (ag_m hu_ma120 (by first | with_reducible rfl | with_reducible assumption | omega) (by first | with_reducible rfl | with_reducible assumption | omega)) (by first | with_reducible rfl | with_reducible assumption | omega)
      have hn_ht_v106 := ht_v106.num
      have hf_18_x84_1 : ma120 18 x84_1.toNatClampNeg = v106 := (by rw [hu_ma120, va_up_s, pk_us])
      have hfb : FrB (pf 13).toInt na ma na102 ma120 := (by rw [hu_ma120]; exact FrB.um hfb (by first | with_reducible rfl | with_reducible assumption | omega) (by first | with_reducible rfl | with_reducible assumption | omega))
      exact J103 pf101 na102 ma120 wa104 x84_1 _ _ ls (show (pf101 24).toInt = (pf 24).toInt from by first | exact oz_1687f4cc65 k84_0 e113 | omega) (show (pf101 25).toInt = (pf 25).toInt from by first | exact oz_1687f4cc65 k84_1 e114 | omega) (show (pf101 26).toInt = (pf 26).toInt from by first | exact oz_1687f4cc65 k84_2 e115 | omega) (show (pf101 12).toInt = (pf 12).toInt + 2 from by first | exact oz_29ee0aead2 k84_3 e112 | omega) (show (pf101 12).toInt ≤ 60 from by first | exact oz_a3db38fa3c e112 k84_4 | omega) (show (pf 11).toInt + 2 ≤ (pf101 11).toInt from by first | exact oz_7a8532e08c k84_5 e107 | omega) (show (pf101 11).toInt < (tf 6).toInt from by first | exact e108 | omega) (show x84_1.toInt = (pf 13).toInt from by first | exact k84_7 | omega) (show x84_1.toInt < (pf101 13).toInt from by first | exact oz_3a4745f90a k84_8 e109 | omega) (show (pf101 13).toInt - (pf 13).toInt + 1 ≤ (pf101 11).toInt - (pf 11).toInt from by first | exact oz_55ebf42b38 k84_9 e110 | omega) (show bp ta (pf 11) + 2 ≤ bp ta (pf101 11) from by first | with_reducible rfl | with_reducible assumption | omega) (show FrB (pf 13).toInt na ma na102 ma120 from hfb) (show FrW (pf 26).toInt wa wa104 from hfw) (show NdF (tf 6).toInt na102 x84_1 27 (pf 11) from ⟨by first | with_reducible rfl | with_reducible assumption | omega, hf_14_x84_1, hf_15_x84_1, ⟨by first | with_reducible rfl | with_reducible assumption | omega, by first | with_reducible rfl | with_reducible assumption | omega⟩, hf_21_x84_1⟩) (show FoV ta (tf 6).toInt na102 ma120 1 x84_1 (pf101 13).toInt (3 * (bp ta (pf101 11) - bp ta (pf 11)) - 5) (199 - (pf 12).toInt) from (FoV.le hfo (by first | with_reducible rfl | with_reducible assumption | omega) (by first | with_reducible rfl | with_reducible assumption | omega) (by decide))) (show FsI (tf 6).toInt (pf101 13).toInt na102 from (FsI.le hfs (by first | with_reducible rfl | with_reducible assumption | omega))) hw (lv_sub hl [0, 1] rfl)
  refine lv_aload_n S.x S.b d_Mpg_forLoop_0 rfl (lv_at hl 0 rfl) ?_
  refine lv_bipush (v := 27) S.x S.b d_Mpg_forLoop_1 (by decide) ?_
  refine lv_aload_n S.x S.b d_Mpg_forLoop_3 rfl (lv_at hl 0 rfl) ?_
  refine px_get S k_Mpg hT hw 0 0 11 (v := .int (pf 11)) rfl rfl rfl (by decide) m9_235 d_Mpg_forLoop_4 ?_
  refine px_calli (pr := []) (px_runV (As := [.int 27, .int (pf 11)]) (rest := []) S (c_mp_make l D cs h r g tf ta wa cf ca ef ea xf xa pf na ma 27 (pf 11)  (show 0 ≤ (pf 13).toInt from by first | exact g5 | omega) (show (pf 13).toInt < 2100 from by first | exact oz_1fa6c9b1b7 g6 g11 g2 | omega) _) hT (pr := []) (pcs := [wdP cs h r g tf ta pf na ma wa cf ca ef ea xf xa]) hw px_X.tt (px_recv hT hw 0 0 rfl rfl rfl) m11_209 m11_206 m11_208 ms_8_12 m1_21 q_Mpg_make ⟨show 0 + 1 ≤ (8 * lv + 26) from by first | with_reducible rfl | with_reducible assumption | omega, show 8 + (3 + 11) + 0 ≤ (220 * lv + 1200) from by first | with_reducible rfl | with_reducible assumption | omega⟩ hl.1 rfl (Nat.le_of_ble_eq_true rfl) d_Mpg_forLoop_7 ⟨Nat.le_of_ble_eq_true rfl, Nat.le_of_ble_eq_true rfl⟩) hw hA (fun v128 p127 H locs hp127 hw => ?_)
  obtain ⟨pf124, na125, ma126, rfl, e129, e130, e131, e132, e133, e134, e135, e136⟩ := hp127
  have e129 : v128.toInt = (pf 13).toInt := e129
  have e130 : (pf124 13).toInt = (pf 13).toInt + 1 := e130
  have e131 : (pf124 11).toInt = (pf 11).toInt := e131
  have e132 : (pf124 12).toInt = (pf 12).toInt := e132
  have e133 : (pf124 24).toInt = (pf 24).toInt := e133
  have e134 : (pf124 25).toInt = (pf 25).toInt := e134
  have e135 : (pf124 26).toInt = (pf 26).toInt := e135
  have e136 : MkN na ma na125 ma126 v128 (27 : Int32) (pf 11) := e136
  obtain ⟨qb1371, qb1372, qb1373, qb1374⟩ := tk_eq (ta := ta) (x := (pf124 11)) (y := (pf 11)) (by first | with_reducible rfl | with_reducible assumption | omega)
  have hmk_v128 := e136
  have hfm_v128 := MkN.frb (b := v128.toInt) hmk_v128 (by first | with_reducible rfl | with_reducible assumption | omega) (by first | with_reducible rfl | with_reducible assumption | omega)
  have hfs := FsI.mk hfs hmk_v128 (by first | with_reducible rfl | with_reducible assumption | omega) (by first | with_reducible rfl | with_reducible assumption | omega) (by first | with_reducible rfl | with_reducible assumption | omega) (by first | with_reducible rfl | with_reducible assumption | omega)
  have hfb := hfb.tr hfm_v128 (by first | with_reducible rfl | with_reducible assumption | omega)
  have hf_14_v128 := hmk_v128.2.1 (by decide) (by decide)
  have hf_15_v128 := hmk_v128.2.2.1
  have hf_17_v128 := hmk_v128.2.2.2.2.1
  have hf_18_v128 := hmk_v128.2.2.2.2.2.1
  have hf_19_v128 := hmk_v128.2.2.2.2.2.2.1
  have hf_21_v128 := hmk_v128.2.2.2.2.2.2.2.2.1
  clear hmk_v128 hfm_v128
  have hw : pw D A s.heap H locs [wdP cs h r g tf ta pf124 na125 ma126 wa cf ca ef ea xf xa] := hw
  have lv128 := Int32.le_toInt v128
  have uv128 := Int32.toInt_lt v128
  refine lv_istore_n (lv' := [(1, .int v128), (0, .ref h)]) S.x S.b d_Mpg_forLoop_10 rfl hl (by decide) rfl (fun ls hl => ?_)
  refine lv_aload_n S.x S.b d_Mpg_forLoop_11 rfl (lv_at hl 1 rfl) ?_
  refine th_callv (ps0 := [wdP cs h r g tf ta pf na ma wa cf ca ef ea xf xa]) (pr := []) (pcs := [wdP cs h r g tf ta pf124 na125 ma126 wa cf ca ef ea xf xa]) (As := []) (rest := []) (c_mp_opens l D cs h r g tf ta na125 ma126 wa cf ca ef ea xf xa pf124   (show 0 ≤ (pf124 11).toInt from by first | exact oz_f3ebed1ad0 e131 g0 | omega) (show (pf124 11).toInt < (tf 6).toInt from by first | exact oz_0f9fb0345d g11 e131 | omega) (show (tf 6).toInt ≤ 2049 from by first | exact g2 | omega) (show (pf124 11).toInt + 1 < (tf 6).toInt from by first | exact oz_4b6b8b2f72 g11 e131 | omega) (show 0 ≤ (pf124 12).toInt from by first | exact oz_f3ebed1ad0 e132 g3 | omega) (show (pf124 12).toInt ≤ 60 from by first | exact oz_a3db38fa3c e132 g4 | omega) hlf htk) S hT hw (oX_call (P := (fun A U H => (oN A U H) ∧ (oP A g U H))) (pr := []) (oG_and oG_N oG_P) hw hA ⟨hN, hP⟩) (px_recv hT hw 0 0 rfl rfl rfl) m11_238 m11_235 m11_237 ms_9_1 m1_21 q_Mpg_opens ⟨show 7 + 1 ≤ (8 * lv + 26) from by first | with_reducible rfl | with_reducible assumption | omega, show 8 + (1 + 11) + 150 ≤ (220 * lv + 1200) from by first | with_reducible rfl | with_reducible assumption | omega⟩ hl.1 rfl (Nat.le_of_ble_eq_true rfl) d_Mpg_forLoop_12 ⟨Nat.le_of_ble_eq_true rfl, Nat.le_of_ble_eq_true rfl⟩ hne hlk hA hAe (fun o t h => Or.inr h) ?_ (fun p140 H locs hp140 hw => ?_)
  · exact fun p1 H1 locs1 hp hw => by obtain ⟨pq1, pq2, pq3, pq4, rfl, hq1, hq2⟩ := hp; exact ⟨_, ⟨pq1, pq2, pq3, pq4, rfl, hq1, hq2⟩, hw⟩
  obtain ⟨pf139, rfl, e142, e143, e144, e145, e146, e147, e148, e149, e150, e151⟩ := hp140
  have e142 : (pf139 11).toInt = (pf124 11).toInt + 1 := e142
  have e143 : (pf139 11).toInt < (tf 6).toInt := e143
  have e144 : bp ta (pf124 11) + sz ta (pf124 11) ≤ bp ta (pf139 11) := e144
  have e145 : 1 ≤ sz ta (pf124 11) := e145
  have e146 : (pf139 12).toInt = (pf124 12).toInt + 1 := e146
  have e147 : (pf124 12).toInt < 60 := e147
  have e148 : (pf139 13).toInt = (pf124 13).toInt := e148
  have e149 : (pf139 24).toInt = (pf124 24).toInt := e149
  have e150 : (pf139 25).toInt = (pf124 25).toInt := e150
  have e151 : (pf139 26).toInt = (pf124 26).toInt := e151
  have hw : pw D A s.heap H locs [wdP cs h r g tf ta pf139 na125 ma126 wa cf ca ef ea xf xa] := hw
  refine lv_aload_n S.x S.b d_Mpg_forLoop_15 rfl (lv_at hl 1 rfl) ?_
  obtain ⟨sk152, hRsk152, st153, sb154, hSsk152⟩ := oP_lit hP (k := 87) (tx := "(") (n := 1) (List.mem_of_getElem? (i := 35) rfl)
  refine va_ldcS S.x S.b S.own hRsk152 d_Mpg_forLoop_16 ?_
  refine th_callv (ps0 := [wdP cs h r g tf ta pf na ma wa cf ca ef ea xf xa]) (pr := []) (pcs := [wdP cs h r g tf ta pf139 na125 ma126 wa cf ca ef ea xf xa]) (As := [.ref sk152]) (rest := []) (c_mp_opensMark l D cs sk152 1 h r g tf ta na125 ma126 wa cf ca ef ea xf xa pf139   (show 0 ≤ (pf139 11).toInt from by first | exact oz_f3f97b7517 e142 e131 g0 | omega) (show (pf139 11).toInt < (tf 6).toInt from by first | exact e143 | omega) (show (tf 6).toInt ≤ 2049 from by first | exact g2 | omega) (show 0 ≤ (pf139 12).toInt from by first | exact oz_87be06313f e146 e132 g8 g7 | omega) (show (pf139 12).toInt ≤ 60 from by first | exact oz_6710fd9021 e146 e147 | omega) (show 1 ≤ 100 from by first | decide | omega) hlf htk) S hT hw (oX_call (P := (fun A U H => (oN A U H) ∧ (oP A g U H) ∧ (StS A sk152 1 U H))) (pr := []) (oG_and oG_N (oG_and oG_P oG_Q)) hw hA ⟨hN, hP, ⟨_, _, hSsk152⟩⟩) (px_recv hT hw 0 0 rfl rfl rfl) m11_213 m11_210 m11_212 ms_8_13 m1_21 q_Mpg_opensMark ⟨show 8 + 1 ≤ (8 * lv + 26) from by first | with_reducible rfl | with_reducible assumption | omega, show 8 + (2 + 11) + 240 ≤ (220 * lv + 1200) from by first | with_reducible rfl | with_reducible assumption | omega⟩ hl.1 rfl (Nat.le_of_ble_eq_true rfl) d_Mpg_forLoop_18 ⟨Nat.le_of_ble_eq_true rfl, Nat.le_of_ble_eq_true rfl⟩ hne hlk hA hAe (fun o t h => Or.inr h) ?_ (fun p157 H locs hp157 hw => ?_)
  · exact fun p1 H1 locs1 hp hw => by obtain ⟨pq1, pq2, pq3, pq4, rfl, hq1, hq2⟩ := hp; exact ⟨_, ⟨pq1, pq2, pq3, pq4, rfl, hq1, hq2⟩, hw⟩
  obtain ⟨pf156, rfl, e159, e160, e161, e162, e163, e164, e165, e166, e167, e168⟩ := hp157
  have e159 : (pf156 11).toInt = (pf139 11).toInt + 1 := e159
  have e160 : (pf156 11).toInt < (tf 6).toInt := e160
  have e161 : bp ta (pf139 11) + sz ta (pf139 11) ≤ bp ta (pf156 11) := e161
  have e162 : 1 ≤ sz ta (pf139 11) := e162
  have e163 : (pf156 12).toInt = (pf139 12).toInt + 1 := e163
  have e164 : (pf139 12).toInt < 60 := e164
  have e165 : (pf156 13).toInt = (pf139 13).toInt := e165
  have e166 : (pf156 24).toInt = (pf139 24).toInt := e166
  have e167 : (pf156 25).toInt = (pf139 25).toInt := e167
  have e168 : (pf156 26).toInt = (pf139 26).toInt := e168
  have hw : pw D A s.heap H locs [wdP cs h r g tf ta pf156 na125 ma126 wa cf ca ef ea xf xa] := hw
  refine lv_aload_n S.x S.b d_Mpg_forLoop_21 rfl (lv_at hl 1 rfl) ?_
  refine px_calli (pr := []) (px_runV (As := []) (rest := []) S (c_mp_isType l D cs h r g tf ta pf156 na125 ma126 wa cf ca ef ea xf xa   (show 0 ≤ (pf156 11).toInt from by first | exact oz_d73463faaf e159 e142 g0 e131 | omega) (show (pf156 11).toInt < (tf 6).toInt from by first | exact e160 | omega) (show (tf 6).toInt ≤ 2049 from by first | exact g2 | omega) htk _) hT (pr := []) (pcs := [wdP cs h r g tf ta pf156 na125 ma126 wa cf ca ef ea xf xa]) hw px_X.tt (px_recv hT hw 0 0 rfl rfl rfl) m12_85 m12_82 m12_84 ms_10_6 m1_21 q_Mpg_isType ⟨show 1 + 1 ≤ (8 * lv + 26) from by first | with_reducible rfl | with_reducible assumption | omega, show 8 + (1 + 11) + 40 ≤ (220 * lv + 1200) from by first | with_reducible rfl | with_reducible assumption | omega⟩ hl.1 rfl (Nat.le_of_ble_eq_true rfl) d_Mpg_forLoop_22 ⟨Nat.le_of_ble_eq_true rfl, Nat.le_of_ble_eq_true rfl⟩) hw hA (fun v170 p169 H locs hp169 hw => ?_)
  obtain ⟨rfl, e171, e172⟩ := hp169
  have e171 := z_rng e171
  have e172 : v170.toInt = 1 → (pf156 11).toInt + 1 < (tf 6).toInt ∧ so ta (pf156 11) = 2 ∧ 0 ≤ wh ta (pf156 11) ∧ wh ta (pf156 11) ≤ 1 := e172
  have hw : pw D A s.heap H locs [wdP cs h r g tf ta pf156 na125 ma126 wa cf ca ef ea xf xa] := hw
  have lv170 := Int32.le_toInt v170
  have uv170 := Int32.toInt_lt v170
  refine lv_if_eq (tgt := 41) S.x S.b d_Mpg_forLoop_25 (by decide) (fun c173 => ?_) (fun c173 => ?_)
  · have nc173 : v170.toInt = (0 : Int) := (i_eq (x := v170) (y := 0)).mp c173
    refine lv_aload_n S.x S.b d_Mpg_forLoop_41 rfl (lv_at hl 1 rfl) ?_
    obtain ⟨sk174, hRsk174, st175, sb176, hSsk174⟩ := oP_lit hP (k := 101) (tx := ";") (n := 1) (List.mem_of_getElem? (i := 42) rfl)
    refine va_ldcS S.x S.b S.own hRsk174 d_Mpg_forLoop_42 ?_
    refine px_calli (pr := []) (px_runV (As := [.ref sk174]) (rest := []) S (c_mp_takes l D cs sk174 1 h r g tf ta na125 ma126 wa cf ca ef ea xf xa pf156   (show 0 ≤ (pf156 11).toInt from by first | exact oz_d73463faaf e159 e142 g0 e131 | omega) (show (pf156 11).toInt < (tf 6).toInt from by first | exact e160 | omega) (show (tf 6).toInt ≤ 2049 from by first | exact g2 | omega) (show 1 ≤ 100 from by first | decide | omega) htk _) hT (pr := []) (pcs := [wdP cs h r g tf ta pf156 na125 ma126 wa cf ca ef ea xf xa]) hw (oX_call (P := (fun A U H => (oP A g U H) ∧ (StS A sk174 1 U H))) (pr := []) (oG_and oG_P oG_Q) hw hA ⟨hP, ⟨_, _, hSsk174⟩⟩) (px_recv hT hw 0 0 rfl rfl rfl) m12_6 m12_3 m12_5 ms_9_3 m1_21 q_Mpg_takes ⟨show 4 + 1 ≤ (8 * lv + 26) from by first | with_reducible rfl | with_reducible assumption | omega, show 8 + (3 + 11) + 160 ≤ (220 * lv + 1200) from by first | with_reducible rfl | with_reducible assumption | omega⟩ hl.1 rfl (Nat.le_of_ble_eq_true rfl) d_Mpg_forLoop_44 ⟨Nat.le_of_ble_eq_true rfl, Nat.le_of_ble_eq_true rfl⟩) hw hA (fun v180 p179 H locs hp179 hw => ?_)
    obtain ⟨pf178, rfl, e181, e182, e183, e184, e185, e186, e187, e188, e189⟩ := hp179
    have e181 := z_rng e181
    have e182 : (pf178 11).toInt = (pf156 11).toInt + v180.toInt := e182
    have e183 : (pf178 11).toInt < (tf 6).toInt := e183
    have e184 : bp ta (pf156 11) + v180.toInt ≤ bp ta (pf178 11) := e184
    have e185 : (pf178 12).toInt = (pf156 12).toInt := e185
    have e186 : (pf178 13).toInt = (pf156 13).toInt := e186
    have e187 : (pf178 24).toInt = (pf156 24).toInt := e187
    have e188 : (pf178 25).toInt = (pf156 25).toInt := e188
    have e189 : (pf178 26).toInt = (pf156 26).toInt := e189
    have hw : pw D A s.heap H locs [wdP cs h r g tf ta pf178 na125 ma126 wa cf ca ef ea xf xa] := hw
    have lv180 := Int32.le_toInt v180
    have uv180 := Int32.toInt_lt v180
    refine lv_if_ne (tgt := 84) S.x S.b d_Mpg_forLoop_47 (by decide) (fun c190 => ?_) (fun c190 => ?_)
    · have nc190 : ¬ v180.toInt = (0 : Int) := mt (i_eq (x := v180) (y := 0)).mpr c190
      exact J84 pf178 na125 ma126 wa v128 _ _ ls (show (pf178 24).toInt = (pf 24).toInt from by first | exact oz_ff3084e3c1 e133 e187 e149 e166 | omega) (show (pf178 25).toInt = (pf 25).toInt from by first | exact oz_ff3084e3c1 e134 e188 e150 e167 | omega) (show (pf178 26).toInt = (pf 26).toInt from by first | exact oz_ff3084e3c1 e135 e189 e151 e168 | omega) (show (pf178 12).toInt = (pf 12).toInt + 2 from by first | exact oz_40c14859f5 e132 e185 e146 e163 | omega) (show (pf178 12).toInt ≤ 60 from by first | exact oz_1a76b13bbc e185 e163 e164 | omega) (show (pf 11).toInt + 2 ≤ (pf178 11).toInt from by first | exact oz_2b432613e0 e131 e182 e142 e159 e181.1 | omega) (show (pf178 11).toInt < (tf 6).toInt from by first | exact e183 | omega) (show v128.toInt = (pf 13).toInt from by first | exact e129 | omega) (show v128.toInt < (pf178 13).toInt from by first | exact oz_44247df085 e129 e186 e130 e165 e148 | omega) (show (pf178 13).toInt - (pf 13).toInt + 1 ≤ (pf178 11).toInt - (pf 11).toInt from by first | exact oz_5314e0b1bd e130 e131 e182 e186 e142 e148 e159 e165 e181.1 | omega) (show bp ta (pf 11) + 2 ≤ bp ta (pf178 11) from by first | with_reducible rfl | with_reducible assumption | omega) (show FrB (pf 13).toInt na ma na125 ma126 from hfb) (show FrW (pf 26).toInt wa wa from hfw) (show NdF (tf 6).toInt na125 v128 27 (pf 11) from ⟨by first | with_reducible rfl | with_reducible assumption | omega, hf_14_v128, hf_15_v128, ⟨by first | with_reducible rfl | with_reducible assumption | omega, by first | with_reducible rfl | with_reducible assumption | omega⟩, hf_21_v128⟩) (show FoV ta (tf 6).toInt na125 ma126 0 v128 (pf178 13).toInt (3 * (bp ta (pf178 11) - bp ta (pf 11)) - 5) (199 - (pf 12).toInt) from (fo_0 hf_17_v128 hf_18_v128 hf_19_v128 (by first | with_reducible rfl | with_reducible assumption | omega) (by first | with_reducible rfl | with_reducible assumption | omega))) (show FsI (tf 6).toInt (pf178 13).toInt na125 from (FsI.le hfs (by first | with_reducible rfl | with_reducible assumption | omega))) hw (lv_sub hl [1, 0] rfl)
    · have nc190 : v180.toInt = (0 : Int) := (i_eq (x := v180) (y := 0)).mp c190
      refine lv_aload_n S.x S.b d_Mpg_forLoop_50 rfl (lv_at hl 1 rfl) ?_
      refine lv_bipush (v := 22) S.x S.b d_Mpg_forLoop_51 (by decide) ?_
      refine lv_aload_n S.x S.b d_Mpg_forLoop_53 rfl (lv_at hl 1 rfl) ?_
      refine px_get S k_Mpg hT hw 0 0 11 (v := .int (pf178 11)) rfl rfl rfl (by decide) m9_235 d_Mpg_forLoop_54 ?_
      refine px_calli (pr := []) (px_runV (As := [.int 22, .int (pf178 11)]) (rest := []) S (c_mp_make l D cs h r g tf ta wa cf ca ef ea xf xa pf178 na125 ma126 22 (pf178 11)  (show 0 ≤ (pf178 13).toInt from by first | exact oz_e771310a17 e186 e165 e148 e130 g5 | omega) (show (pf178 13).toInt < 2100 from by first | exact oz_b988e3a5f2 e186 e165 e148 e130 g6 e131 g2 e142 e160 e159 | omega) _) hT (pr := []) (pcs := [wdP cs h r g tf ta pf178 na125 ma126 wa cf ca ef ea xf xa]) hw px_X.tt (px_recv hT hw 0 0 rfl rfl rfl) m11_209 m11_206 m11_208 ms_8_12 m1_21 q_Mpg_make ⟨show 0 + 1 ≤ (8 * lv + 26) from by first | with_reducible rfl | with_reducible assumption | omega, show 8 + (3 + 11) + 0 ≤ (220 * lv + 1200) from by first | with_reducible rfl | with_reducible assumption | omega⟩ hl.1 rfl (Nat.le_of_ble_eq_true rfl) d_Mpg_forLoop_57 ⟨Nat.le_of_ble_eq_true rfl, Nat.le_of_ble_eq_true rfl⟩) hw hA (fun v198 p197 H locs hp197 hw => ?_)
      obtain ⟨pf194, na195, ma196, rfl, e199, e200, e201, e202, e203, e204, e205, e206⟩ := hp197
      have e199 : v198.toInt = (pf178 13).toInt := e199
      have e200 : (pf194 13).toInt = (pf178 13).toInt + 1 := e200
      have e201 : (pf194 11).toInt = (pf178 11).toInt := e201
      have e202 : (pf194 12).toInt = (pf178 12).toInt := e202
      have e203 : (pf194 24).toInt = (pf178 24).toInt := e203
      have e204 : (pf194 25).toInt = (pf178 25).toInt := e204
      have e205 : (pf194 26).toInt = (pf178 26).toInt := e205
      have e206 : MkN na125 ma126 na195 ma196 v198 (22 : Int32) (pf178 11) := e206
      obtain ⟨qb2071, qb2072, qb2073, qb2074⟩ := tk_eq (ta := ta) (x := (pf194 11)) (y := (pf178 11)) (by first | with_reducible rfl | with_reducible assumption | omega)
      have hmk_v198 := e206
      have hfm_v198 := MkN.frb (b := v198.toInt) hmk_v198 (by first | with_reducible rfl | with_reducible assumption | omega) (by first | with_reducible rfl | with_reducible assumption | omega)
      have hf_14_v128 := (fb_n hfm_v198 (by first | with_reducible rfl | with_reducible assumption | omega) (by first | with_reducible rfl | with_reducible assumption | omega)).trans hf_14_v128
      have hf_15_v128 := (fb_n hfm_v198 (by first | with_reducible rfl | with_reducible assumption | omega) (by first | with_reducible rfl | with_reducible assumption | omega)).trans hf_15_v128
      have hf_17_v128 := (fb_n hfm_v198 (by first | with_reducible rfl | with_reducible assumption | omega) (by first | with_reducible rfl | with_reducible assumption | omega)).trans hf_17_v128
      have hf_18_v128 := (fb_m hfm_v198 (by first | with_reducible rfl | with_reducible assumption | omega) (by first | with_reducible rfl | with_reducible assumption | omega)).trans hf_18_v128
      have hf_19_v128 := (fb_m hfm_v198 (by first | with_reducible rfl | with_reducible assumption | omega) (by first | with_reducible rfl | with_reducible assumption | omega)).trans hf_19_v128
      have hf_21_v128 := (fb_n hfm_v198 (by first | with_reducible rfl | with_reducible assumption | omega) (by first | with_reducible rfl | with_reducible assumption | omega)).trans hf_21_v128
      have hfs := FsI.mk hfs hmk_v198 (by first | with_reducible rfl | with_reducible assumption | omega) (by first | with_reducible rfl | with_reducible assumption | omega) (by first | with_reducible rfl | with_reducible assumption | omega) (by first | with_reducible rfl | with_reducible assumption | omega)
      have hfb := hfb.tr hfm_v198 (by first | with_reducible rfl | with_reducible assumption | omega)
      have hf_14_v198 := hmk_v198.2.1 (by decide) (by decide)
      have hf_15_v198 := hmk_v198.2.2.1
      have hf_17_v198 := hmk_v198.2.2.2.2.1
      have hf_18_v198 := hmk_v198.2.2.2.2.2.1
      have hf_19_v198 := hmk_v198.2.2.2.2.2.2.1
      have hf_21_v198 := hmk_v198.2.2.2.2.2.2.2.2.1
      clear hmk_v198 hfm_v198
      have hw : pw D A s.heap H locs [wdP cs h r g tf ta pf194 na195 ma196 wa cf ca ef ea xf xa] := hw
      have lv198 := Int32.le_toInt v198
      have uv198 := Int32.toInt_lt v198
      refine lv_istore_n (lv' := [(2, .int v198), (1, .int v128), (0, .ref h)]) S.x S.b d_Mpg_forLoop_60 rfl hl (by decide) rfl (fun ls hl => ?_)
      refine lv_aload_n S.x S.b d_Mpg_forLoop_61 rfl (lv_at hl 2 rfl) ?_
      refine px_get S k_Mpg hT hw 0 0 17 (v := .ref (r 17)) rfl rfl rfl (by decide) m10_1 d_Mpg_forLoop_62 ?_
      refine lv_iload_n S.x S.b d_Mpg_forLoop_65 rfl (lv_at hl 0 rfl) ?_
      refine lv_aload_n S.x S.b d_Mpg_forLoop_66 rfl (lv_at hl 2 rfl) ?_
      refine th_calli (ps0 := [wdP cs h r g tf ta pf na ma wa cf ca ef ea xf xa]) (pr := []) (pcs := [wdP cs h r g tf ta pf194 na195 ma196 wa cf ca ef ea xf xa]) (As := []) (rest := [.int v198, .ref (r 17)]) (c_S_expression l D cs h r g tf ta cf ca ef ea xf xa pf194 na195 ma196 wa  lv (show 0 ≤ (pf194 11).toInt from by first | exact oz_453ac321b0 e201 e182 e159 e181.1 g0 e131 e142 | omega) (show (pf194 11).toInt < (tf 6).toInt from by first | exact oz_5d2fbac15b e183 e201 | omega) (show (tf 6).toInt ≤ 2049 from by first | exact g2 | omega) (show 0 ≤ (pf194 12).toInt from by first | exact oz_0e72690fbd e202 e185 e163 e146 e132 g8 g7 | omega) (show (pf194 12).toInt ≤ 60 from by first | exact oz_51eeb0c7ba e202 e185 e163 e164 | omega) (show 0 ≤ (pf194 13).toInt from by first | exact oz_9d3054870c e200 e186 e165 e148 e130 g5 | omega) (show (pf194 13).toInt ≤ (pf194 11).toInt + 20 from by first | exact oz_94edcc245e e200 e201 e182 e186 e159 e165 e181.1 g6 e131 e142 e148 e130 | omega) (show 0 ≤ (pf194 26).toInt from by first | exact oz_6003ce2c41 e205 e189 e168 e151 e135 g7 | omega) (show (pf194 26).toInt ≤ (pf194 12).toInt from by first | exact oz_9459e7f993 e202 e205 e185 e189 e163 e168 e146 e151 e132 e135 g8 | omega) (show 61 ≤ (pf194 12).toInt + (lv : Int) from by first | exact oz_9e50793284 g9 e202 e132 e185 e146 e163 | omega) (show lv ≤ 61 from by first | exact g10 | omega) hlf htk (FsI.le (N' := (pf194 13).toInt) hfs (by first | with_reducible rfl | with_reducible assumption | omega))) S hT hw (oX_call (P := (fun A U H => (oN A U H) ∧ (oP A g U H))) (pr := []) (oG_and oG_N oG_P) hw hA ⟨hN, hP⟩) (px_recv hT hw 0 0 rfl rfl rfl) m12_38 m12_35 m12_37 ms_9_11 m1_21 q_Mpg_expression ⟨show (8 * lv + 20) + 1 ≤ (8 * lv + 26) from by first | with_reducible rfl | with_reducible assumption | omega, show 8 + (7 + 11) + (220 * lv + 720) ≤ (220 * lv + 1200) from by first | with_reducible rfl | with_reducible assumption | omega⟩ hl.1 rfl (Nat.le_of_ble_eq_true rfl) d_Mpg_forLoop_67 ⟨Nat.le_of_ble_eq_true rfl, Nat.le_of_ble_eq_true rfl⟩ hne hlk hA hAe (fun o t h => Or.inr h) ?_ (fun v217 p216 H locs hp216 hw => ?_)
      · exact fun p1 H1 locs1 hp hw => by obtain ⟨pq1, pq2, pq3, pq4, rfl, hq1, hq2⟩ := hp; exact ⟨_, ⟨pq1, pq2, pq3, pq4, rfl, hq1, hq2⟩, hw⟩
      obtain ⟨pf212, na213, ma214, wa215, rfl, e218, e219, e220, e221, e222, e223, e224, e225, e226, e227, e228, e229, e230⟩ := hp216
      have e218 : (pf194 11).toInt + 1 ≤ (pf212 11).toInt := e218
      have e219 : (pf212 11).toInt < (tf 6).toInt := e219
      have e220 : (pf194 13).toInt + 1 ≤ (pf212 13).toInt := e220
      have e221 : (pf212 13).toInt - (pf194 13).toInt ≤ (pf212 11).toInt - (pf194 11).toInt := e221
      have e222 : bp ta (pf194 11) + 1 ≤ bp ta (pf212 11) := e222
      have e223 : (pf212 12).toInt = (pf194 12).toInt := e223
      have e224 : (pf212 24).toInt = (pf194 24).toInt := e224
      have e225 : (pf212 25).toInt = (pf194 25).toInt := e225
      have e226 : (pf212 26).toInt = (pf194 26).toInt := e226
      have e227 : FrB (pf194 13).toInt na195 ma196 na213 ma214 := e227
      have hf_14_v128 := (fb_n e227 (by first | with_reducible rfl | with_reducible assumption | omega) (by first | with_reducible rfl | with_reducible assumption | omega)).trans hf_14_v128
      have hf_15_v128 := (fb_n e227 (by first | with_reducible rfl | with_reducible assumption | omega) (by first | with_reducible rfl | with_reducible assumption | omega)).trans hf_15_v128
      have hf_17_v128 := (fb_n e227 (by first | with_reducible rfl | with_reducible assumption | omega) (by first | with_reducible rfl | with_reducible assumption | omega)).trans hf_17_v128
      have hf_18_v128 := (fb_m e227 (by first | with_reducible rfl | with_reducible assumption | omega) (by first | with_reducible rfl | with_reducible assumption | omega)).trans hf_18_v128
      have hf_19_v128 := (fb_m e227 (by first | with_reducible rfl | with_reducible assumption | omega) (by first | with_reducible rfl | with_reducible assumption | omega)).trans hf_19_v128
      have hf_21_v128 := (fb_n e227 (by first | with_reducible rfl | with_reducible assumption | omega) (by first | with_reducible rfl | with_reducible assumption | omega)).trans hf_21_v128
      have hf_14_v198 := (fb_n e227 (by first | with_reducible rfl | with_reducible assumption | omega) (by first | with_reducible rfl | with_reducible assumption | omega)).trans hf_14_v198
      have hf_15_v198 := (fb_n e227 (by first | with_reducible rfl | with_reducible assumption | omega) (by first | with_reducible rfl | with_reducible assumption | omega)).trans hf_15_v198
      have hf_17_v198 := (fb_n e227 (by first | with_reducible rfl | with_reducible assumption | omega) (by first | with_reducible rfl | with_reducible assumption | omega)).trans hf_17_v198
      have hf_18_v198 := (fb_m e227 (by first | with_reducible rfl | with_reducible assumption | omega) (by first | with_reducible rfl | with_reducible assumption | omega)).trans hf_18_v198
      have hf_19_v198 := (fb_m e227 (by first | with_reducible rfl | with_reducible assumption | omega) (by first | with_reducible rfl | with_reducible assumption | omega)).trans hf_19_v198
      have hf_21_v198 := (fb_n e227 (by first | with_reducible rfl | with_reducible assumption | omega) (by first | with_reducible rfl | with_reducible assumption | omega)).trans hf_21_v198
      have hfb := hfb.tr e227 (by first | with_reducible rfl | with_reducible assumption | omega)
      have e228 : FrW (pf194 26).toInt wa wa215 := e228
      have hfw := hfw.tr e228 (by first | with_reducible rfl | with_reducible assumption | omega)
      have e229 : ExR ta (tf 6).toInt na213 ma214 v217 (pf194 13).toInt (pf212 13).toInt (3 * (bp ta (pf212 11) - bp ta (pf194 11))) (pf194 12).toInt := e229
      have ht_v217 := e229
      have hn_ht_v217 := ht_v217.num
      have e230 : FsI (tf 6).toInt (pf212 13).toInt na213 := e230
      have hfs := e230
      have hw : pw D A s.heap H locs [wdP cs h r g tf ta pf212 na213 ma214 wa215 cf ca ef ea xf xa] := hw
      have lv217 := Int32.le_toInt v217
      have uv217 := Int32.toInt_lt v217
      refine px_iast S hT hw 0 13 (n := 2100) (f := (na213 17)) (x := v198) (y := v217) rfl gp_17 (vp_in_iff.mpr (by constructor <;> omega)) d_Mpg_forLoop_70 (w' := wdP cs h r g tf ta pf212 (va_up na213 17 (upd (na213 17) v198.toNatClampNeg v217)) ma214 wa215 cf ca ef ea xf xa) (ps' := [wdP cs h r g tf ta pf212 (va_up na213 17 (upd (na213 17) v198.toNatClampNeg v217)) ma214 wa215 cf ca ef ea xf xa]) sp_17 rfl (fun H locs hw => ?_)
      obtain ⟨na231, hu_na231⟩ : ∃ y : Nat → Nat → Int32, y = va_up na213 17 (upd (na213 17) v198.toNatClampNeg v217) := ⟨_, rfl⟩
      have hw : pw D A s.heap _ _ [wdP cs h r g tf ta pf212 na231 ma214 wa215 cf ca ef ea xf xa] := (by rw [hu_na231]; exact hw)
      obtain ⟨ht_v217, hdq_v217⟩ := ht_v217.ag (ag_n hu_na231 (by first | with_reducible rfl | with_reducible assumption | omega) (by first | with_reducible rfl | with_reducible assumption | omega)) (by first | with_reducible rfl | with_reducible assumption | omega)
      have hn_ht_v217 := ht_v217.num
      have hf_14_v128 := (fl_n hu_na231 (by decide)).trans hf_14_v128
      have hf_15_v128 := (fl_n hu_na231 (by decide)).trans hf_15_v128
      have hf_17_v128 := (fl_f hu_na231 (by first | with_reducible rfl | with_reducible assumption | omega) (by first | with_reducible rfl | with_reducible assumption | omega) (by first | with_reducible rfl | with_reducible assumption | omega)).trans hf_17_v128
      have hf_21_v128 := (fl_n hu_na231 (by decide)).trans hf_21_v128
      have hf_14_v198 := (fl_n hu_na231 (by decide)).trans hf_14_v198
      have hf_15_v198 := (fl_n hu_na231 (by decide)).trans hf_15_v198
      have hf_21_v198 := (fl_n hu_na231 (by decide)).trans hf_21_v198
      have hf_17_v198 : na231 17 v198.toNatClampNeg = v217 := (by rw [hu_na231, va_up_s, pk_us])
      have hfs : FsI _ _ na231 := (by rw [hu_na231]; exact FsI.un hfs (by decide))
      have hfb : FrB (pf 13).toInt na ma na231 ma214 := (by rw [hu_na231]; exact FrB.un hfb (by first | with_reducible rfl | with_reducible assumption | omega) (by first | with_reducible rfl | with_reducible assumption | omega))
      refine lv_aload_n S.x S.b d_Mpg_forLoop_71 rfl (lv_at hl 2 rfl) ?_
      refine px_get S k_Mpg hT hw 0 0 17 (v := .ref (r 17)) rfl rfl rfl (by decide) m10_1 d_Mpg_forLoop_72 ?_
      refine lv_iload_n S.x S.b d_Mpg_forLoop_75 rfl (lv_at hl 1 rfl) ?_
      refine lv_iload_n S.x S.b d_Mpg_forLoop_76 rfl (lv_at hl 0 rfl) ?_
      refine px_iast S hT hw 0 13 (n := 2100) (f := (na231 17)) (x := v128) (y := v198) rfl gp_17 (vp_in_iff.mpr (by constructor <;> omega)) d_Mpg_forLoop_77 (w' := wdP cs h r g tf ta pf212 (va_up na231 17 (upd (na231 17) v128.toNatClampNeg v198)) ma214 wa215 cf ca ef ea xf xa) (ps' := [wdP cs h r g tf ta pf212 (va_up na231 17 (upd (na231 17) v128.toNatClampNeg v198)) ma214 wa215 cf ca ef ea xf xa]) sp_17 rfl (fun H locs hw => ?_)
      obtain ⟨na232, hu_na232⟩ : ∃ y : Nat → Nat → Int32, y = va_up na231 17 (upd (na231 17) v128.toNatClampNeg v198) := ⟨_, rfl⟩
      have hw : pw D A s.heap _ _ [wdP cs h r g tf ta pf212 na232 ma214 wa215 cf ca ef ea xf xa] := (by rw [hu_na232]; exact hw)
      obtain ⟨ht_v217, hdq_v217⟩ := ht_v217.ag (ag_n hu_na232 (by first | with_reducible rfl | with_reducible assumption | omega) (by first | with_reducible rfl | with_reducible assumption | omega)) (by first | with_reducible rfl | with_reducible assumption | omega)
      have hn_ht_v217 := ht_v217.num
      have hf_14_v128 := (fl_n hu_na232 (by decide)).trans hf_14_v128
      have hf_15_v128 := (fl_n hu_na232 (by decide)).trans hf_15_v128
      have hf_21_v128 := (fl_n hu_na232 (by decide)).trans hf_21_v128
      have hf_14_v198 := (fl_n hu_na232 (by decide)).trans hf_14_v198
      have hf_15_v198 := (fl_n hu_na232 (by decide)).trans hf_15_v198
      have hf_17_v198 := (fl_f hu_na232 (by first | with_reducible rfl | with_reducible assumption | omega) (by first | with_reducible rfl | with_reducible assumption | omega) (by first | with_reducible rfl | with_reducible assumption | omega)).trans hf_17_v198
      have hf_21_v198 := (fl_n hu_na232 (by decide)).trans hf_21_v198
      have hf_17_v128 : na232 17 v128.toNatClampNeg = v198 := (by rw [hu_na232, va_up_s, pk_us])
      have hfs : FsI _ _ na232 := (by rw [hu_na232]; exact FsI.un hfs (by decide))
      have hfb : FrB (pf 13).toInt na ma na232 ma214 := (by rw [hu_na232]; exact FrB.un hfb (by first | with_reducible rfl | with_reducible assumption | omega) (by first | with_reducible rfl | with_reducible assumption | omega))
      refine lv_aload_n S.x S.b d_Mpg_forLoop_78 rfl (lv_at hl 2 rfl) ?_
      obtain ⟨sk233, hRsk233, st234, sb235, hSsk233⟩ := oP_lit hP (k := 101) (tx := ";") (n := 1) (List.mem_of_getElem? (i := 42) rfl)
      refine va_ldcS S.x S.b S.own hRsk233 d_Mpg_forLoop_79 ?_
      refine th_callv (ps0 := [wdP cs h r g tf ta pf na ma wa cf ca ef ea xf xa]) (pr := []) (pcs := [wdP cs h r g tf ta pf212 na232 ma214 wa215 cf ca ef ea xf xa]) (As := [.ref sk233]) (rest := []) (c_mp_take l D cs sk233 1 h r g tf ta na232 ma214 wa215 cf ca ef ea xf xa pf212   (show 0 ≤ (pf212 11).toInt from by first | exact oz_24779b4509 e218 e201 g0 e131 e142 e159 e182 e181.1 | omega) (show (pf212 11).toInt < (tf 6).toInt from by first | exact e219 | omega) (show (tf 6).toInt ≤ 2049 from by first | exact g2 | omega) (show 1 ≤ 100 from by first | decide | omega) hlf htk) S hT hw (oX_call (P := (fun A U H => (oN A U H) ∧ (oP A g U H) ∧ (StS A sk233 1 U H))) (pr := []) (oG_and oG_N (oG_and oG_P oG_Q)) hw hA ⟨hN, hP, ⟨_, _, hSsk233⟩⟩) (px_recv hT hw 0 0 rfl rfl rfl) m12_57 m12_54 m12_56 ms_9_15 m1_21 q_Mpg_take ⟨show 7 + 1 ≤ (8 * lv + 26) from by first | with_reducible rfl | with_reducible assumption | omega, show 8 + (2 + 11) + 230 ≤ (220 * lv + 1200) from by first | with_reducible rfl | with_reducible assumption | omega⟩ hl.1 rfl (Nat.le_of_ble_eq_true rfl) d_Mpg_forLoop_81 ⟨Nat.le_of_ble_eq_true rfl, Nat.le_of_ble_eq_true rfl⟩ hne hlk hA hAe (fun o t h => Or.inr h) ?_ (fun p238 H locs hp238 hw => ?_)
      · exact fun p1 H1 locs1 hp hw => by obtain ⟨pq1, pq2, pq3, pq4, rfl, hq1, hq2⟩ := hp; exact ⟨_, ⟨pq1, pq2, pq3, pq4, rfl, hq1, hq2⟩, hw⟩
      obtain ⟨pf237, rfl, e240, e241, e242, e243, e244, e245, e246, e247⟩ := hp238
      have e240 : (pf237 11).toInt = (pf212 11).toInt + 1 := e240
      have e241 : (pf237 11).toInt < (tf 6).toInt := e241
      have e242 : bp ta (pf212 11) + 1 ≤ bp ta (pf237 11) := e242
      have e243 : (pf237 12).toInt = (pf212 12).toInt := e243
      have e244 : (pf237 13).toInt = (pf212 13).toInt := e244
      have e245 : (pf237 24).toInt = (pf212 24).toInt := e245
      have e246 : (pf237 25).toInt = (pf212 25).toInt := e246
      have e247 : (pf237 26).toInt = (pf212 26).toInt := e247
      have hw : pw D A s.heap H locs [wdP cs h r g tf ta pf237 na232 ma214 wa215 cf ca ef ea xf xa] := hw
      exact J84 pf237 na232 ma214 wa215 v128 _ _ ls (show (pf237 24).toInt = (pf 24).toInt from by first | exact oz_ada9f7f295 e133 e245 e149 e224 e166 e203 e187 | omega) (show (pf237 25).toInt = (pf 25).toInt from by first | exact oz_ada9f7f295 e134 e246 e150 e225 e167 e204 e188 | omega) (show (pf237 26).toInt = (pf 26).toInt from by first | exact oz_ada9f7f295 e135 e247 e151 e226 e168 e205 e189 | omega) (show (pf237 12).toInt = (pf 12).toInt + 2 from by first | exact oz_7dc59d7be9 e132 e243 e146 e223 e163 e202 e185 | omega) (show (pf237 12).toInt ≤ 60 from by first | exact oz_3dac64c40e e243 e223 e202 e185 e163 e164 | omega) (show (pf 11).toInt + 2 ≤ (pf237 11).toInt from by first | exact oz_350c80a278 e131 e240 e142 e218 e159 e182 e201 e181.1 | omega) (show (pf237 11).toInt < (tf 6).toInt from by first | exact e241 | omega) (show v128.toInt = (pf 13).toInt from by first | exact e129 | omega) (show v128.toInt < (pf237 13).toInt from by first | exact oz_270e46aea8 e129 e244 e130 e220 e148 e200 e165 e186 | omega) (show (pf237 13).toInt - (pf 13).toInt + 1 ≤ (pf237 11).toInt - (pf 11).toInt from by first | exact oz_a9dcf29ee3 e130 e131 e240 e244 e142 e148 e221 e159 e165 e182 e200 e201 e181.1 e186 | omega) (show bp ta (pf 11) + 2 ≤ bp ta (pf237 11) from by first | with_reducible rfl | with_reducible assumption | omega) (show FrB (pf 13).toInt na ma na232 ma214 from hfb) (show FrW (pf 26).toInt wa wa215 from hfw) (show NdF (tf 6).toInt na232 v128 27 (pf 11) from ⟨by first | with_reducible rfl | with_reducible assumption | omega, hf_14_v128, hf_15_v128, ⟨by first | with_reducible rfl | with_reducible assumption | omega, by first | with_reducible rfl | with_reducible assumption | omega⟩, hf_21_v128⟩) (show FoV ta (tf 6).toInt na232 ma214 0 v128 (pf237 13).toInt (3 * (bp ta (pf237 11) - bp ta (pf 11)) - 5) (199 - (pf 12).toInt) from (FoV.le (fo_a (hi := (pf237 13).toInt) hf_17_v128 hf_18_v128 hf_19_v128 (VlV.le (st_expr (hi := (pf237 13).toInt) (D := 130) ⟨by first | with_reducible rfl | with_reducible assumption | omega, hf_14_v198, hf_15_v198, ⟨by first | with_reducible rfl | with_reducible assumption | omega, by first | with_reducible rfl | with_reducible assumption | omega⟩, hf_21_v198⟩ hf_17_v198 (by first | with_reducible rfl | with_reducible assumption | omega) (lo := v198.toInt + 1) (VlV.le (exr_vl ht_v217 (by first | with_reducible rfl | with_reducible assumption | omega)) (by first | with_reducible rfl | with_reducible assumption | omega) (by first | with_reducible rfl | with_reducible assumption | omega) (Int.le_refl _) (by first | with_reducible rfl | with_reducible assumption | omega)) (by first | with_reducible rfl | with_reducible assumption | omega)) (by first | with_reducible rfl | with_reducible assumption | omega) (by first | with_reducible rfl | with_reducible assumption | omega) (Int.le_refl _) (by first | with_reducible rfl | with_reducible assumption | omega)) (by first | exact Or.inl (by rw [hf_14_v198]; decide) | exact Or.inr (by rw [hf_14_v198]; decide))) (by first | with_reducible rfl | with_reducible assumption | omega) (by first | with_reducible rfl | with_reducible assumption | omega) (by decide))) (show FsI (tf 6).toInt (pf237 13).toInt na232 from (FsI.le hfs (by first | with_reducible rfl | with_reducible assumption | omega))) hw (lv_sub hl [2, 1] rfl)
  · have nc173 : ¬ v170.toInt = (0 : Int) := mt (i_eq (x := v170) (y := 0)).mpr c173
    refine lv_aload_n S.x S.b d_Mpg_forLoop_28 rfl (lv_at hl 1 rfl) ?_
    refine px_get S k_Mpg hT hw 0 0 17 (v := .ref (r 17)) rfl rfl rfl (by decide) m10_1 d_Mpg_forLoop_29 ?_
    refine lv_iload_n S.x S.b d_Mpg_forLoop_32 rfl (lv_at hl 0 rfl) ?_
    refine lv_aload_n S.x S.b d_Mpg_forLoop_33 rfl (lv_at hl 1 rfl) ?_
    refine th_calli (ps0 := [wdP cs h r g tf ta pf na ma wa cf ca ef ea xf xa]) (pr := []) (pcs := [wdP cs h r g tf ta pf156 na125 ma126 wa cf ca ef ea xf xa]) (As := []) (rest := [.int v128, .ref (r 17)]) (c_mp_declaration l D cs h r g tf ta cf ca ef ea xf xa pf156 na125 ma126 wa  lv (show 0 ≤ (pf156 11).toInt from by first | exact oz_d73463faaf e159 e142 g0 e131 | omega) (show (pf156 11).toInt < (tf 6).toInt from by first | exact e160 | omega) (show (tf 6).toInt ≤ 2049 from by first | exact g2 | omega) (show 0 ≤ (pf156 12).toInt from by first | exact oz_76e1b18faf e163 e146 e132 g3 | omega) (show (pf156 12).toInt ≤ 60 from by first | exact oz_6710fd9021 e163 e164 | omega) (show 0 ≤ (pf156 13).toInt from by first | exact oz_717962a5e4 e165 e148 e130 g5 | omega) (show (pf156 13).toInt ≤ (pf156 11).toInt + 10 from by first | exact oz_7f53689946 e159 e165 e142 e148 g6 e130 e131 | omega) (show 0 ≤ (pf156 26).toInt from by first | exact oz_11e71ee49a e168 e151 e135 g7 | omega) (show (pf156 26).toInt ≤ (pf156 12).toInt from by first | exact oz_eb17792cf2 e163 e168 e146 e151 e132 e135 g8 | omega) (show 61 ≤ (pf156 12).toInt + (lv : Int) from by first | exact oz_96afeea4d9 g9 e163 e132 e146 | omega) (show lv ≤ 61 from by first | exact g10 | omega) (show (pf156 11).toInt + 1 < (tf 6).toInt from by first | with_reducible rfl | with_reducible assumption | omega) (show so ta (pf156 11) = 2 from by first | with_reducible rfl | with_reducible assumption | omega) (show 0 ≤ wh ta (pf156 11) from by first | with_reducible rfl | with_reducible assumption | omega) (show wh ta (pf156 11) ≤ 1 from by first | with_reducible rfl | with_reducible assumption | omega) hlf htk (FsI.le (N' := (pf156 13).toInt) hfs (by first | with_reducible rfl | with_reducible assumption | omega))) S hT hw (oX_call (P := (fun A U H => (oN A U H) ∧ (oP A g U H))) (pr := []) (oG_and oG_N oG_P) hw hA ⟨hN, hP⟩) (px_recv hT hw 0 0 rfl rfl rfl) m12_105 m12_102 m12_104 ms_10_11 m1_21 q_Mpg_declaration ⟨show (8 * lv + 25) + 1 ≤ (8 * lv + 26) from by first | with_reducible rfl | with_reducible assumption | omega, show 8 + (2 + 11) + (220 * lv + 1160) ≤ (220 * lv + 1200) from by first | with_reducible rfl | with_reducible assumption | omega⟩ hl.1 rfl (Nat.le_of_ble_eq_true rfl) d_Mpg_forLoop_34 ⟨Nat.le_of_ble_eq_true rfl, Nat.le_of_ble_eq_true rfl⟩ hne hlk hA hAe (fun o t h => Or.inr h) ?_ (fun v257 p256 H locs hp256 hw => ?_)
    · exact fun p1 H1 locs1 hp hw => by obtain ⟨pq1, pq2, pq3, pq4, rfl, hq1, hq2⟩ := hp; exact ⟨_, ⟨pq1, pq2, pq3, pq4, rfl, hq1, hq2⟩, hw⟩
    obtain ⟨pf252, na253, ma254, wa255, rfl, e258, e259, e260, e261, e262, e263, e264, e265, e266, e267, e268, e269, e270, e271⟩ := hp256
    have e258 : (pf156 11).toInt + 1 ≤ (pf252 11).toInt := e258
    have e259 : (pf252 11).toInt < (tf 6).toInt := e259
    have e260 : (pf156 13).toInt + 1 ≤ (pf252 13).toInt := e260
    have e261 : (pf252 13).toInt - (pf156 13).toInt ≤ (pf252 11).toInt - (pf156 11).toInt := e261
    have e262 : bp ta (pf156 11) + 1 ≤ bp ta (pf252 11) := e262
    have e263 : (pf252 12).toInt = (pf156 12).toInt := e263
    have e264 : (pf252 24).toInt = (pf156 24).toInt := e264
    have e265 : (pf252 25).toInt = (pf156 25).toInt := e265
    have e266 : (pf252 26).toInt = (pf156 26).toInt := e266
    have e267 : FrB (pf156 13).toInt na125 ma126 na253 ma254 := e267
    have hf_14_v128 := (fb_n e267 (by first | with_reducible rfl | with_reducible assumption | omega) (by first | with_reducible rfl | with_reducible assumption | omega)).trans hf_14_v128
    have hf_15_v128 := (fb_n e267 (by first | with_reducible rfl | with_reducible assumption | omega) (by first | with_reducible rfl | with_reducible assumption | omega)).trans hf_15_v128
    have hf_17_v128 := (fb_n e267 (by first | with_reducible rfl | with_reducible assumption | omega) (by first | with_reducible rfl | with_reducible assumption | omega)).trans hf_17_v128
    have hf_18_v128 := (fb_m e267 (by first | with_reducible rfl | with_reducible assumption | omega) (by first | with_reducible rfl | with_reducible assumption | omega)).trans hf_18_v128
    have hf_19_v128 := (fb_m e267 (by first | with_reducible rfl | with_reducible assumption | omega) (by first | with_reducible rfl | with_reducible assumption | omega)).trans hf_19_v128
    have hf_21_v128 := (fb_n e267 (by first | with_reducible rfl | with_reducible assumption | omega) (by first | with_reducible rfl | with_reducible assumption | omega)).trans hf_21_v128
    have hfb := hfb.tr e267 (by first | with_reducible rfl | with_reducible assumption | omega)
    have e268 : FrW (pf156 26).toInt wa wa255 := e268
    have hfw := hfw.tr e268 (by first | with_reducible rfl | with_reducible assumption | omega)
    have e269 : VlS ta (tf 6).toInt na253 ma254 v257 (pf156 13).toInt (pf252 13).toInt (3 * (bp ta (pf252 11) - bp ta (pf156 11))) (200 - (pf156 12).toInt) := e269
    have hv_v257 := e269
    have hn_hv_v257 := hv_v257.num fs_ok
    have e270 : DcN na253 v257 := e270
    have hf_14_v257 : na253 14 v257.toNatClampNeg = 23 := e270
    have e271 : FsI (tf 6).toInt (pf252 13).toInt na253 := e271
    have hfs := e271
    have hw : pw D A s.heap H locs [wdP cs h r g tf ta pf252 na253 ma254 wa255 cf ca ef ea xf xa] := hw
    have lv257 := Int32.le_toInt v257
    have uv257 := Int32.toInt_lt v257
    refine px_iast S hT hw 0 13 (n := 2100) (f := (na253 17)) (x := v128) (y := v257) rfl gp_17 (vp_in_iff.mpr (by constructor <;> omega)) d_Mpg_forLoop_37 (w' := wdP cs h r g tf ta pf252 (va_up na253 17 (upd (na253 17) v128.toNatClampNeg v257)) ma254 wa255 cf ca ef ea xf xa) (ps' := [wdP cs h r g tf ta pf252 (va_up na253 17 (upd (na253 17) v128.toNatClampNeg v257)) ma254 wa255 cf ca ef ea xf xa]) sp_17 rfl (fun H locs hw => ?_)
    obtain ⟨na272, hu_na272⟩ : ∃ y : Nat → Nat → Int32, y = va_up na253 17 (upd (na253 17) v128.toNatClampNeg v257) := ⟨_, rfl⟩
    have hw : pw D A s.heap _ _ [wdP cs h r g tf ta pf252 na272 ma254 wa255 cf ca ef ea xf xa] := (by rw [hu_na272]; exact hw)
    have hv_v257 := hv_v257.ag fs_ok (ag_n hu_na272 (by first | with_reducible rfl | with_reducible assumption | omega) (by first | with_reducible rfl | with_reducible assumption | omega))
    have hf_14_v128 := (fl_n hu_na272 (by decide)).trans hf_14_v128
    have hf_15_v128 := (fl_n hu_na272 (by decide)).trans hf_15_v128
    have hf_21_v128 := (fl_n hu_na272 (by decide)).trans hf_21_v128
    have hf_14_v257 := (fl_n hu_na272 (by decide)).trans hf_14_v257
    have hf_17_v128 : na272 17 v128.toNatClampNeg = v257 := (by rw [hu_na272, va_up_s, pk_us])
    have hfs : FsI _ _ na272 := (by rw [hu_na272]; exact FsI.un hfs (by decide))
    have hfb : FrB (pf 13).toInt na ma na272 ma254 := (by rw [hu_na272]; exact FrB.un hfb (by first | with_reducible rfl | with_reducible assumption | omega) (by first | with_reducible rfl | with_reducible assumption | omega))
    refine lv_goto (tgt := 84) S.x S.b d_Mpg_forLoop_38 (by decide) ?_
    exact J84 pf252 na272 ma254 wa255 v128 _ _ ls (show (pf252 24).toInt = (pf 24).toInt from by first | exact oz_ff3084e3c1 e133 e264 e149 e166 | omega) (show (pf252 25).toInt = (pf 25).toInt from by first | exact oz_ff3084e3c1 e134 e265 e150 e167 | omega) (show (pf252 26).toInt = (pf 26).toInt from by first | exact oz_ff3084e3c1 e135 e266 e151 e168 | omega) (show (pf252 12).toInt = (pf 12).toInt + 2 from by first | exact oz_40c14859f5 e132 e263 e146 e163 | omega) (show (pf252 12).toInt ≤ 60 from by first | exact oz_1a76b13bbc e263 e163 e164 | omega) (show (pf 11).toInt + 2 ≤ (pf252 11).toInt from by first | exact oz_12e446d2fd e131 e258 e142 e159 | omega) (show (pf252 11).toInt < (tf 6).toInt from by first | exact e259 | omega) (show v128.toInt = (pf 13).toInt from by first | exact e129 | omega) (show v128.toInt < (pf252 13).toInt from by first | exact oz_d71012882d e129 e260 e130 e165 e148 | omega) (show (pf252 13).toInt - (pf 13).toInt + 1 ≤ (pf252 11).toInt - (pf 11).toInt from by first | exact oz_8913a1f1b4 e130 e131 e261 e142 e148 e159 e165 | omega) (show bp ta (pf 11) + 2 ≤ bp ta (pf252 11) from by first | with_reducible rfl | with_reducible assumption | omega) (show FrB (pf 13).toInt na ma na272 ma254 from hfb) (show FrW (pf 26).toInt wa wa255 from hfw) (show NdF (tf 6).toInt na272 v128 27 (pf 11) from ⟨by first | with_reducible rfl | with_reducible assumption | omega, hf_14_v128, hf_15_v128, ⟨by first | with_reducible rfl | with_reducible assumption | omega, by first | with_reducible rfl | with_reducible assumption | omega⟩, hf_21_v128⟩) (show FoV ta (tf 6).toInt na272 ma254 0 v128 (pf252 13).toInt (3 * (bp ta (pf252 11) - bp ta (pf 11)) - 5) (199 - (pf 12).toInt) from (FoV.le (fo_a (hi := (pf252 13).toInt) hf_17_v128 hf_18_v128 hf_19_v128 (VlV.le hv_v257 (by first | with_reducible rfl | with_reducible assumption | omega) (by first | with_reducible rfl | with_reducible assumption | omega) (Int.le_refl _) (by first | with_reducible rfl | with_reducible assumption | omega)) (by first | exact Or.inl (by rw [hf_14_v257]; decide) | exact Or.inr (by rw [hf_14_v257]; decide))) (by first | with_reducible rfl | with_reducible assumption | omega) (by first | with_reducible rfl | with_reducible assumption | omega) (by decide))) (show FsI (tf 6).toInt (pf252 13).toInt na272 from (FsI.le hfs (by first | with_reducible rfl | with_reducible assumption | omega))) hw (lv_sub hl [1, 0] rfl)
