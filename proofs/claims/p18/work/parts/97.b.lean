theorem oz_80eb9436a0 {a0 a1 a2 a3 a4 a5 : Int} (h0 : a1 = a2 + 1) (h1 : a0 = a3) (h2 : a3 = a4 + 1) (h3 : a2 = a5) (h4 : a4 ≤ a5 + 10) : a0 ≤ a1 + 10 := by omega
theorem oz_927a742cd4 {a0 a2 a3 : Int} {n1 : Nat} (h0 : 61 ≤ a2 + (n1 : Int)) (h1 : a0 = a3 + 1) (h2 : a3 = a2) : 61 ≤ a0 + (n1 : Int) := by omega
theorem oz_5d987d7f9e {a0 a1 a2 a3 : Int} (h0 : a1 + 1 ≤ a0) (h1 : a1 = a2 + 1) (h2 : 0 ≤ a3) (h3 : a2 = a3) : 0 ≤ a0 := by omega
theorem oz_3ff206910e {a0 a1 a2 a3 : Int} (h0 : a1 + 1 ≤ a0) (h1 : a1 = a2) (h2 : a2 = a3 + 1) (h3 : 0 ≤ a3) : 0 ≤ a0 := by omega
theorem oz_71bf65dd77 {a0 a1 a2 a3 a4 a5 a6 a7 : Int} (h0 : a0 - a2 ≤ a1 - a3) (h1 : a3 = a4 + 1) (h2 : a2 = a5) (h3 : a6 ≤ a7 + 10) (h4 : a5 = a6 + 1) (h5 : a4 = a7) : a0 ≤ a1 + 10 := by omega
theorem oz_2e44d917d0 {a0 a1 a2 a3 a4 a5 a6 a7 : Int} (h0 : a1 = a2) (h1 : a0 = a3) (h2 : a2 = a4 + 1) (h3 : a3 = a5) (h4 : a4 = a6) (h5 : a5 = a7) (h6 : a7 ≤ a6) : a0 ≤ a1 := by omega
theorem oz_fab1129875 {a0 a1 a2 a3 a4 : Int} (h0 : a2 = a0) (h1 : a3 + 1 ≤ a1) (h2 : a4 = a2 + 1) (h3 : a4 + 1 ≤ a3) : a0 + 1 ≤ a1 := by omega
theorem oz_155f230f77 {a0 a1 a2 a3 a4 : Int} (h0 : a2 = a0 + 1) (h1 : a3 + 1 ≤ a1) (h2 : a4 = a2) (h3 : a4 + 1 ≤ a3) : a0 + 1 ≤ a1 := by omega
theorem oz_cc65ad6daa {a0 a1 a2 a3 a4 a5 a6 a7 a8 a9 : Int} (h0 : a4 = a1 + 1) (h1 : a5 = a3) (h2 : a0 - a6 ≤ a2 - a7) (h3 : a8 = a5 + 1) (h4 : a9 = a4) (h5 : a6 - a9 ≤ a7 - a8) : a0 - a1 ≤ a2 - a3 := by omega
theorem oz_e4189b3632 {a0 a1 a2 a3 a4 a5 : Int} (h0 : a2 = a1) (h1 : a0 = a3 - (1 : Int)) (h2 : a4 = a2 + 1) (h3 : a3 = a5) (h4 : a5 = a4) : a0 = a1 := by omega
theorem oz_abaa8eb164 {a0 a1 a2 a3 a4 : Int} (h0 : a1 + 1 ≤ a0) (h1 : a2 + 1 ≤ a1) (h2 : 0 ≤ a3) (h3 : a4 = a3) (h4 : a2 = a4 + 1) : 0 ≤ a0 := by omega
theorem oz_5f17c95f56 {a0 a1 a2 a3 a4 a5 a6 : Int} (h0 : a2 = a0) (h1 : a1 = a3 + a4) (h2 : a5 = a2 + 1) (h3 : a6 + 1 ≤ a3) (h4 : 0 ≤ a4) (h5 : a5 + 1 ≤ a6) : a0 + 1 ≤ a1 := by omega
theorem oz_e86c8ea46a {a0 a1 a2 a3 a4 a5 : Int} (h0 : a2 = a0 + 1) (h1 : a1 = a3) (h2 : a4 = a2) (h3 : a5 + 1 ≤ a3) (h4 : a4 + 1 ≤ a5) : a0 + 1 ≤ a1 := by omega
theorem oz_c9dc3cd592 {a0 a1 a2 a3 a4 a5 a6 a7 a8 a9 a10 a11 a12 : Int} (h0 : a4 = a1 + 1) (h1 : a5 = a3) (h2 : a2 = a6 + a7) (h3 : a0 = a8) (h4 : a9 = a5 + 1) (h5 : a10 = a4) (h6 : a8 - a11 ≤ a6 - a12) (h7 : 0 ≤ a7) (h8 : a11 - a10 ≤ a12 - a9) : a0 - a1 ≤ a2 - a3 := by omega
theorem oz_f329b8fe74 {a0 a1 a2 a3 a4 a5 a6 a7 : Int} (h0 : a2 = a0) (h1 : a3 + a4 ≤ a1) (h2 : a2 + a5 ≤ a6) (h3 : a7 + 1 ≤ a3) (h4 : 0 ≤ a4) (h5 : 1 ≤ a5) (h6 : a6 + 1 ≤ a7) : a0 + 1 ≤ a1 := by omega
theorem oz_9150f5354a {a0 a1 a2 a3 a4 a5 a6 : Int} (h0 : a2 = a1) (h1 : a0 = a3 - (1 : Int)) (h2 : a4 = a2 + 1) (h3 : a3 = a5) (h4 : a6 = a4) (h5 : a5 = a6) : a0 = a1 := by omega
theorem oz_719dfece60 {a0 a1 a2 a3 a4 a5 a6 : Int} (h0 : a0 = a1 + a2) (h1 : a3 + 1 ≤ a1) (h2 : 0 ≤ a2) (h3 : 0 ≤ a4) (h4 : a5 = a4) (h5 : a6 = a5 + 1) (h6 : a6 + 1 ≤ a3) : 0 ≤ a0 := by omega
theorem oz_1a41beca24 {a0 a1 a2 a3 a4 a5 a6 : Int} (h0 : a0 = a1) (h1 : a1 = a2) (h2 : a2 = a3) (h3 : a3 = a4 + 1) (h4 : a4 = a5) (h5 : a6 ≤ a5) (h6 : 0 ≤ a6) : 0 ≤ a0 := by omega
theorem oz_7382568b78 {a0 a1 a2 a3 a4 : Int} (h0 : a0 = a1) (h1 : a1 = a2) (h2 : a2 = a3) (h3 : a3 = a4 + 1) (h4 : a4 < 60) : a0 ≤ 60 := by omega
theorem oz_571e5ef8c2 {a0 a1 a2 a3 a4 a5 : Int} (h0 : a0 = a1) (h1 : a2 + 1 ≤ a1) (h2 : a3 + 1 ≤ a2) (h3 : a3 = a4) (h4 : a4 = a5 + 1) (h5 : 0 ≤ a5) : 0 ≤ a0 := by omega
theorem oz_6c72f0f831 {a0 a1 a2 a3 a4 a5 a6 a7 a8 a9 a10 a11 a12 : Int} (h0 : a1 = a2 + a3) (h1 : a0 = a4) (h2 : a4 - a5 ≤ a2 - a6) (h3 : 0 ≤ a3) (h4 : a7 ≤ a8 + 10) (h5 : a9 = a8) (h6 : a10 = a9 + 1) (h7 : a5 - a11 ≤ a6 - a10) (h8 : a12 = a7 + 1) (h9 : a11 = a12) : a0 ≤ a1 + 10 := by omega
theorem oz_6003ce2c41 {a0 a1 a2 a3 a4 a5 : Int} (h0 : a0 = a1) (h1 : a1 = a2) (h2 : a2 = a3) (h3 : a3 = a4) (h4 : a4 = a5) (h5 : 0 ≤ a5) : 0 ≤ a0 := by omega
theorem oz_492d0f64aa {a0 a1 a2 a3 a4 a5 a6 a7 a8 a9 a10 a11 : Int} (h0 : a1 = a2) (h1 : a0 = a3) (h2 : a2 = a4) (h3 : a3 = a5) (h4 : a4 = a6) (h5 : a5 = a7) (h6 : a6 = a8 + 1) (h7 : a7 = a9) (h8 : a8 = a10) (h9 : a9 = a11) (h10 : a11 ≤ a10) : a0 ≤ a1 := by omega
theorem oz_535e69da1d {a0 a1 a2 a3 a4 a5 a6 a7 : Int} (h0 : a2 = a0) (h1 : a3 + 1 ≤ a1) (h2 : a4 = a2 + 1) (h3 : a3 = a5 + a6) (h4 : a4 + 1 ≤ a7) (h5 : a7 + 1 ≤ a5) (h6 : 0 ≤ a6) : a0 + 1 ≤ a1 := by omega
theorem oz_e191051be6 {a0 a1 a2 a3 a4 a5 a6 : Int} (h0 : a2 = a0 + 1) (h1 : a3 + 1 ≤ a1) (h2 : a4 = a2) (h3 : a3 = a5) (h4 : a4 + 1 ≤ a6) (h5 : a6 + 1 ≤ a5) : a0 + 1 ≤ a1 := by omega
theorem oz_ab815a9d62 {a0 a1 a2 a3 a4 a5 a6 a7 a8 a9 a10 a11 a12 a13 a14 : Int} (h0 : a4 = a1 + 1) (h1 : a5 = a3) (h2 : a0 - a6 ≤ a2 - a7) (h3 : a8 = a5 + 1) (h4 : a9 = a4) (h5 : a7 = a10 + a11) (h6 : a6 = a12) (h7 : a13 - a9 ≤ a14 - a8) (h8 : a12 - a13 ≤ a10 - a14) (h9 : 0 ≤ a11) : a0 - a1 ≤ a2 - a3 := by omega
theorem oz_b1489df459 {a0 a1 a2 a3 a4 a5 a6 a7 a8 : Int} (h0 : a2 = a0) (h1 : a3 + 1 ≤ a1) (h2 : a2 + a4 ≤ a5) (h3 : a6 + a7 ≤ a3) (h4 : 1 ≤ a4) (h5 : a5 + 1 ≤ a8) (h6 : a8 + 1 ≤ a6) (h7 : 0 ≤ a7) : a0 + 1 ≤ a1 := by omega
theorem oz_f3d5d0e710 {a0 a1 a2 a3 a4 a5 a6 a7 : Int} (h0 : a2 = a1) (h1 : a0 = a3 - (1 : Int)) (h2 : a4 = a2 + 1) (h3 : a3 = a5) (h4 : a6 = a4) (h5 : a5 = a7) (h6 : a7 = a6) : a0 = a1 := by omega
theorem oz_973b2ce965 {a0 a1 a2 a3 a4 a5 : Int} (h0 : a0 = a1 + a2) (h1 : a3 + 1 ≤ a1) (h2 : 0 ≤ a2) (h3 : 0 ≤ a4) (h4 : a5 = a4) (h5 : a3 = a5 + 1) : 0 ≤ a0 := by omega
theorem oz_cf8e4b951f {a0 a1 a2 a3 a4 : Int} (h0 : a0 = a1) (h1 : a2 + 1 ≤ a1) (h2 : a2 = a3) (h3 : a3 = a4 + 1) (h4 : 0 ≤ a4) : 0 ≤ a0 := by omega
theorem oz_a20ee91ac9 {a0 a1 a2 a3 a4 a5 a6 a7 a8 a9 a10 : Int} (h0 : a1 = a2 + a3) (h1 : a0 = a4) (h2 : a4 - a5 ≤ a2 - a6) (h3 : 0 ≤ a3) (h4 : a7 ≤ a8 + 10) (h5 : a9 = a8) (h6 : a6 = a9 + 1) (h7 : a5 = a10) (h8 : a10 = a7 + 1) : a0 ≤ a1 + 10 := by omega
theorem oz_9277c9ebe9 {a0 a2 a3 a4 a5 : Int} {n1 : Nat} (h0 : 61 ≤ a2 + (n1 : Int)) (h1 : a0 = a3) (h2 : a4 = a2) (h3 : a3 = a5) (h4 : a5 = a4 + 1) : 61 ≤ a0 + (n1 : Int) := by omega
theorem oz_8c9e4e7a6d {a0 a1 a2 a3 a4 a5 a6 : Int} (h0 : a1 + 1 ≤ a0) (h1 : a1 = a2 + a3) (h2 : 0 ≤ a4) (h3 : a5 = a4) (h4 : a6 = a5 + 1) (h5 : a6 + 1 ≤ a2) (h6 : 0 ≤ a3) : 0 ≤ a0 := by omega
theorem oz_aad75de018 {a0 a1 a2 a3 a4 a5 a6 a7 : Int} (h0 : a2 = a0) (h1 : a1 = a3 + 1) (h2 : a4 = a2 + 1) (h3 : a5 + 1 ≤ a3) (h4 : a4 + 1 ≤ a6) (h5 : a5 = a6 + a7) (h6 : 0 ≤ a7) : a0 + 1 ≤ a1 := by omega
theorem oz_0f2b28d9b8 {a0 a1 a2 a3 a4 a5 a6 : Int} (h0 : a2 = a0 + 1) (h1 : a1 = a3) (h2 : a4 = a2) (h3 : a5 + 1 ≤ a3) (h4 : a4 + 1 ≤ a6) (h5 : a5 = a6) : a0 + 1 ≤ a1 := by omega
theorem oz_87fffc65d6 {a0 a1 a2 a3 a4 a5 a6 a7 a8 a9 a10 a11 a12 a13 a14 : Int} (h0 : a4 = a1 + 1) (h1 : a5 = a3) (h2 : a2 = a6 + 1) (h3 : a0 = a7) (h4 : a8 = a5 + 1) (h5 : a9 = a4) (h6 : a7 - a10 ≤ a6 - a11) (h7 : a12 - a9 ≤ a13 - a8) (h8 : a11 = a13 + a14) (h9 : a10 = a12) (h10 : 0 ≤ a14) : a0 - a1 ≤ a2 - a3 := by omega
theorem oz_a8afd67e66 {a0 a1 a2 a3 a4 a5 a6 a7 a8 : Int} (h0 : a2 = a0) (h1 : a3 + 1 ≤ a1) (h2 : a2 + a4 ≤ a5) (h3 : a6 + 1 ≤ a3) (h4 : 1 ≤ a4) (h5 : a5 + 1 ≤ a7) (h6 : a7 + a8 ≤ a6) (h7 : 0 ≤ a8) : a0 + 1 ≤ a1 := by omega
theorem m12_126 : Cond.methodLink "HomeSystemModel$Program" 494 ⟨"HomeSystemModel$Program", "inParentheses", "()I"⟩ ∈ AL := AL_12 (List.mem_of_getElem? (i := 126) rfl) rfl
theorem m12_129 : Cond.code ⟨"HomeSystemModel$Program", "inParentheses", "()I"⟩ prog_16_method_50_code 2 (Option.some FieldType.int) ∈ AL := AL_12 (List.mem_of_getElem? (i := 129) rfl) rfl
theorem ms_11_1 : Cond.selects "HomeSystemModel$Program" ⟨"HomeSystemModel$Program", "inParentheses", "()I"⟩ ⟨"HomeSystemModel$Program", "inParentheses", "()I"⟩ ∈ AL := AL_p (q := (⟨"HomeSystemModel$Program", "inParentheses", "()I"⟩, 69)) (by unfold lw_privs; exact List.mem_append_right _ (List.mem_append_right _ (List.mem_append_right _ (List.mem_append_right _ (List.mem_append_right _ (List.mem_append_right _ (List.mem_append_right _ (List.mem_append_right _ (List.mem_append_right _ (List.mem_append_right _ (List.mem_append_left _ (List.mem_of_getElem? (i := 1) rfl))))))))))))
theorem m12_128 : Cond.instanceMethod ⟨"HomeSystemModel$Program", "inParentheses", "()I"⟩ ∈ AL := AL_12 (List.mem_of_getElem? (i := 128) rfl) rfl
theorem m12_130 : Cond.methodLink "HomeSystemModel$Program" 497 ⟨"HomeSystemModel$Program", "takesKey", "(I)Z"⟩ ∈ AL := AL_12 (List.mem_of_getElem? (i := 130) rfl) rfl
theorem m12_133 : Cond.code ⟨"HomeSystemModel$Program", "takesKey", "(I)Z"⟩ prog_16_method_22_code 3 (Option.some FieldType.boolean) ∈ AL := AL_12 (List.mem_of_getElem? (i := 133) rfl) rfl
theorem ms_11_2 : Cond.selects "HomeSystemModel$Program" ⟨"HomeSystemModel$Program", "takesKey", "(I)Z"⟩ ⟨"HomeSystemModel$Program", "takesKey", "(I)Z"⟩ ∈ AL := AL_p (q := (⟨"HomeSystemModel$Program", "takesKey", "(I)Z"⟩, 69)) (by unfold lw_privs; exact List.mem_append_right _ (List.mem_append_right _ (List.mem_append_right _ (List.mem_append_right _ (List.mem_append_right _ (List.mem_append_right _ (List.mem_append_right _ (List.mem_append_right _ (List.mem_append_right _ (List.mem_append_right _ (List.mem_append_left _ (List.mem_of_getElem? (i := 2) rfl))))))))))))
theorem m12_132 : Cond.instanceMethod ⟨"HomeSystemModel$Program", "takesKey", "(I)Z"⟩ ∈ AL := AL_12 (List.mem_of_getElem? (i := 132) rfl) rfl
abbrev b_Mpg_conditioned : ByteArray := prog_16_method_53_code
def y_Mpg_conditioned : MethodName := ⟨"HomeSystemModel$Program", "conditioned", "(I)I"⟩
theorem d_Mpg_conditioned_0 : decode b_Mpg_conditioned 0 = .ok (.aload_n 0, 1) := by decide +kernel
theorem d_Mpg_conditioned_1 : decode b_Mpg_conditioned 1 = .ok (.iload_n 1, 1) := by decide +kernel
theorem d_Mpg_conditioned_2 : decode b_Mpg_conditioned 2 = .ok (.iconst 4, 1) := by decide +kernel
theorem d_Mpg_conditioned_3 : decode b_Mpg_conditioned 3 = .ok (.if_icmp .ne 8, 3) := by decide +kernel
theorem d_Mpg_conditioned_6 : decode b_Mpg_conditioned 6 = .ok (.bipush 24, 2) := by decide +kernel
theorem d_Mpg_conditioned_8 : decode b_Mpg_conditioned 8 = .ok (.goto 5, 3) := by decide +kernel
theorem d_Mpg_conditioned_11 : decode b_Mpg_conditioned 11 = .ok (.bipush 25, 2) := by decide +kernel
theorem d_Mpg_conditioned_13 : decode b_Mpg_conditioned 13 = .ok (.aload_n 0, 1) := by decide +kernel
theorem d_Mpg_conditioned_14 : decode b_Mpg_conditioned 14 = .ok (.getfield 360, 3) := by decide +kernel
theorem d_Mpg_conditioned_17 : decode b_Mpg_conditioned 17 = .ok (.invokevirtual 406, 3) := by decide +kernel
theorem d_Mpg_conditioned_20 : decode b_Mpg_conditioned 20 = .ok (.istore_n 2, 1) := by decide +kernel
theorem d_Mpg_conditioned_21 : decode b_Mpg_conditioned 21 = .ok (.aload_n 0, 1) := by decide +kernel
theorem d_Mpg_conditioned_22 : decode b_Mpg_conditioned 22 = .ok (.invokevirtual 383, 3) := by decide +kernel
theorem d_Mpg_conditioned_25 : decode b_Mpg_conditioned 25 = .ok (.aload_n 0, 1) := by decide +kernel
theorem d_Mpg_conditioned_26 : decode b_Mpg_conditioned 26 = .ok (.getfield 216, 3) := by decide +kernel
theorem d_Mpg_conditioned_29 : decode b_Mpg_conditioned 29 = .ok (.iload_n 2, 1) := by decide +kernel
theorem d_Mpg_conditioned_30 : decode b_Mpg_conditioned 30 = .ok (.aload_n 0, 1) := by decide +kernel
theorem d_Mpg_conditioned_31 : decode b_Mpg_conditioned 31 = .ok (.invokevirtual 494, 3) := by decide +kernel
theorem d_Mpg_conditioned_34 : decode b_Mpg_conditioned 34 = .ok (.iastore, 1) := by decide +kernel
theorem d_Mpg_conditioned_35 : decode b_Mpg_conditioned 35 = .ok (.aload_n 0, 1) := by decide +kernel
theorem d_Mpg_conditioned_36 : decode b_Mpg_conditioned 36 = .ok (.getfield 219, 3) := by decide +kernel
theorem d_Mpg_conditioned_39 : decode b_Mpg_conditioned 39 = .ok (.iload_n 2, 1) := by decide +kernel
theorem d_Mpg_conditioned_40 : decode b_Mpg_conditioned 40 = .ok (.aload_n 0, 1) := by decide +kernel
theorem d_Mpg_conditioned_41 : decode b_Mpg_conditioned 41 = .ok (.invokevirtual 463, 3) := by decide +kernel
theorem d_Mpg_conditioned_44 : decode b_Mpg_conditioned 44 = .ok (.iastore, 1) := by decide +kernel
theorem d_Mpg_conditioned_45 : decode b_Mpg_conditioned 45 = .ok (.iload_n 1, 1) := by decide +kernel
theorem d_Mpg_conditioned_46 : decode b_Mpg_conditioned 46 = .ok (.iconst 4, 1) := by decide +kernel
theorem d_Mpg_conditioned_47 : decode b_Mpg_conditioned 47 = .ok (.if_icmp .ne 21, 3) := by decide +kernel
theorem d_Mpg_conditioned_50 : decode b_Mpg_conditioned 50 = .ok (.aload_n 0, 1) := by decide +kernel
theorem d_Mpg_conditioned_51 : decode b_Mpg_conditioned 51 = .ok (.iconst 5, 1) := by decide +kernel
theorem d_Mpg_conditioned_52 : decode b_Mpg_conditioned 52 = .ok (.invokevirtual 497, 3) := by decide +kernel
theorem d_Mpg_conditioned_55 : decode b_Mpg_conditioned 55 = .ok (.ifCond .eq 13, 3) := by decide +kernel
theorem d_Mpg_conditioned_58 : decode b_Mpg_conditioned 58 = .ok (.aload_n 0, 1) := by decide +kernel
theorem d_Mpg_conditioned_59 : decode b_Mpg_conditioned 59 = .ok (.getfield 222, 3) := by decide +kernel
theorem d_Mpg_conditioned_62 : decode b_Mpg_conditioned 62 = .ok (.iload_n 2, 1) := by decide +kernel
theorem d_Mpg_conditioned_63 : decode b_Mpg_conditioned 63 = .ok (.aload_n 0, 1) := by decide +kernel
theorem d_Mpg_conditioned_64 : decode b_Mpg_conditioned 64 = .ok (.invokevirtual 463, 3) := by decide +kernel
theorem d_Mpg_conditioned_67 : decode b_Mpg_conditioned 67 = .ok (.iastore, 1) := by decide +kernel
theorem d_Mpg_conditioned_68 : decode b_Mpg_conditioned 68 = .ok (.aload_n 0, 1) := by decide +kernel
theorem d_Mpg_conditioned_69 : decode b_Mpg_conditioned 69 = .ok (.dup, 1) := by decide +kernel
theorem d_Mpg_conditioned_70 : decode b_Mpg_conditioned 70 = .ok (.getfield 380, 3) := by decide +kernel
theorem d_Mpg_conditioned_73 : decode b_Mpg_conditioned 73 = .ok (.iconst 1, 1) := by decide +kernel
theorem d_Mpg_conditioned_74 : decode b_Mpg_conditioned 74 = .ok (.isub, 1) := by decide +kernel
theorem d_Mpg_conditioned_75 : decode b_Mpg_conditioned 75 = .ok (.putfield 380, 3) := by decide +kernel
theorem d_Mpg_conditioned_78 : decode b_Mpg_conditioned 78 = .ok (.iload_n 2, 1) := by decide +kernel
theorem d_Mpg_conditioned_79 : decode b_Mpg_conditioned 79 = .ok (.ireturn, 1) := by decide +kernel
theorem q_Mpg_conditioned : px_y y_Mpg_conditioned 1 := by unfold px_y; decide +kernel
set_option maxHeartbeats 4000000 in
set_option maxRecDepth 100000 in
theorem c_mp_conditioned (l : Launch) (D : va_G) (cs : Nat → ClassId) (h : Nat) (r : Nat → Nat) (g : Nat → Nat → Option Nat) (tf : Nat → Int32) (ta : Nat → Nat → Int32) (cf : Nat → Int32) (ca : Nat → Nat → Int32) (ef : Nat → Int32) (ea : Nat → Nat → Int32) (xf : Nat → Int32) (xa : Nat → Nat → Int32) (pf : Nat → Int32) (na : Nat → Nat → Int32) (ma : Nat → Nat → Int32) (wa : Nat → Nat → Int32) (p0 : Int32) (lv : Nat) (g0 : 0 ≤ (pf 11).toInt) (g1 : (pf 11).toInt < (tf 6).toInt) (g2 : (tf 6).toInt ≤ 2049) (g3 : 0 ≤ (pf 12).toInt) (g4 : (pf 12).toInt ≤ 60) (g5 : 0 ≤ (pf 13).toInt) (g6 : (pf 13).toInt ≤ (pf 11).toInt + 10) (g7 : 0 ≤ (pf 26).toInt) (g8 : (pf 26).toInt ≤ (pf 12).toInt) (g9 : 61 ≤ (pf 12).toInt + (lv : Int)) (g10 : lv ≤ 61) (g11 : (pf 11).toInt + 1 < (tf 6).toInt) (hlf : l.flags = pinnedFlags ++ [noTraceFlag]) (htk : TkI tf ta) (hfs : FsI (tf 6).toInt (pf 13).toInt na) (hLT : LvT l D cs lv) : ThI l y_Mpg_conditioned b_Mpg_conditioned 3 (.int) D cs (8 * lv + 26) (220 * lv + 1200) [.ref h, .int p0] [wdP cs h r g tf ta pf na ma wa cf ca ef ea xf xa] (oX (fun A U H => (oN A U H) ∧ (oP A g U H)) [wdP cs h r g tf ta pf na ma wa cf ca ef ea xf xa]) "java/lang/IllegalArgumentException" (fun v ps => ∃ (pf' : Nat → Int32) (na' : Nat → Nat → Int32) (ma' : Nat → Nat → Int32) (wa' : Nat → Nat → Int32), (ps = [wdP cs h r g tf ta pf' na' ma' wa' cf ca ef ea xf xa]) ∧ ((pf 11).toInt + 1 ≤ (pf' 11).toInt) ∧ ((pf' 11).toInt < (tf 6).toInt) ∧ ((pf 13).toInt + 1 ≤ (pf' 13).toInt) ∧ ((pf' 13).toInt - (pf 13).toInt ≤ (pf' 11).toInt - (pf 11).toInt) ∧ (bp ta (pf 11) + 1 ≤ bp ta (pf' 11)) ∧ ((pf' 12).toInt = (pf 12).toInt) ∧ ((pf' 24).toInt = (pf 24).toInt) ∧ ((pf' 25).toInt = (pf 25).toInt) ∧ ((pf' 26).toInt = (pf 26).toInt) ∧ (FrB (pf 13).toInt na ma na' ma') ∧ (FrW (pf 26).toInt wa wa') ∧ (VlS ta (tf 6).toInt na' ma' v (pf 13).toInt (pf' 13).toInt (3 * (bp ta (pf' 11) - bp ta (pf 11))) (200 - (pf 12).toInt)) ∧ (FsI (tf 6).toInt (pf' 13).toInt na')) (fun ps => ∃ (pf' : Nat → Int32) (na' : Nat → Nat → Int32) (ma' : Nat → Nat → Int32) (wa' : Nat → Nat → Int32), ps = [wdP cs h r g tf ta pf' na' ma' wa' cf ca ef ea xf xa] ∧ 0 ≤ (pf' 11).toInt ∧ (pf' 11).toInt + 1 ≤ (tf 6).toInt) := by
  refine th_enter (by decide) (Nat.le_of_ble_eq_true rfl) ?_
  intro p e s m below meth c A ls hAe S hr hlk hnm hA hT hX hw hl hne hadm
  have hl : lv_has ls 3 [(0, .ref h), (1, .int p0)] := hl
  have lp0 := Int32.le_toInt p0
  have up0 := Int32.toInt_lt p0
  have cst1 : (1 : Int32).toInt = 1 := rfl
  have cst4 : (4 : Int32).toInt = 4 := rfl
  have cst5 : (5 : Int32).toInt = 5 := rfl
  have cst24 : (24 : Int32).toInt = 24 := rfl
  have cst25 : (25 : Int32).toInt = 25 := rfl
  have hX : (fun A U H => (oN A U H) ∧ (oP A g U H)) A s s.heap := by rw [hAe]; exact hX
  obtain ⟨hN, hP⟩ := hX
  have hZ := hP.1
  have hF0 := hP.2.1
  have hfb : FrB (pf 13).toInt na ma na ma := FrB.rf
  have hfw : FrW (pf 26).toInt wa wa := FrW.rf
  refine lv_aload_n S.x S.b d_Mpg_conditioned_0 rfl (lv_at hl 0 rfl) ?_
  refine lv_iload_n S.x S.b d_Mpg_conditioned_1 rfl (lv_at hl 1 rfl) ?_
  refine lv_iconst (v := 4) S.x S.b d_Mpg_conditioned_2 (by decide) ?_
  refine lv_icmp_ne (tgt := 11) S.x S.b d_Mpg_conditioned_3 (by decide) (fun c1 => ?_) (fun c1 => ?_)
  · have nc1 : ¬ p0.toInt = (4 : Int) := mt (i_eq (x := p0) (y := 4)).mpr c1
    refine lv_bipush (v := 25) S.x S.b d_Mpg_conditioned_11 (by decide) ?_
    refine lv_aload_n S.x S.b d_Mpg_conditioned_13 rfl (lv_at hl 0 rfl) ?_
    refine px_get S k_Mpg hT hw 0 0 11 (v := .int (pf 11)) rfl rfl rfl (by decide) m9_235 d_Mpg_conditioned_14 ?_
    refine px_calli (pr := []) (px_runV (As := [.int 25, .int (pf 11)]) (rest := []) S (c_mp_make l D cs h r g tf ta wa cf ca ef ea xf xa pf na ma 25 (pf 11)  (show 0 ≤ (pf 13).toInt from by first | exact g5 | omega) (show (pf 13).toInt < 2100 from by first | exact oz_1fa6c9b1b7 g6 g11 g2 | omega) _) hT (pr := []) (pcs := [wdP cs h r g tf ta pf na ma wa cf ca ef ea xf xa]) hw px_X.tt (px_recv hT hw 0 0 rfl rfl rfl) m11_209 m11_206 m11_208 ms_8_12 m1_21 q_Mpg_make ⟨show 0 + 1 ≤ (8 * lv + 26) from by first | with_reducible rfl | with_reducible assumption | omega, show 8 + (3 + 11) + 0 ≤ (220 * lv + 1200) from by first | with_reducible rfl | with_reducible assumption | omega⟩ hl.1 rfl (Nat.le_of_ble_eq_true rfl) d_Mpg_conditioned_17 ⟨Nat.le_of_ble_eq_true rfl, Nat.le_of_ble_eq_true rfl⟩) hw hA (fun v9 p8 H locs hp8 hw => ?_)
    obtain ⟨pf5, na6, ma7, rfl, e10, e11, e12, e13, e14, e15, e16, e17⟩ := hp8
    have e10 : v9.toInt = (pf 13).toInt := e10
    have e11 : (pf5 13).toInt = (pf 13).toInt + 1 := e11
    have e12 : (pf5 11).toInt = (pf 11).toInt := e12
    have e13 : (pf5 12).toInt = (pf 12).toInt := e13
    have e14 : (pf5 24).toInt = (pf 24).toInt := e14
    have e15 : (pf5 25).toInt = (pf 25).toInt := e15
    have e16 : (pf5 26).toInt = (pf 26).toInt := e16
    have e17 : MkN na ma na6 ma7 v9 (25 : Int32) (pf 11) := e17
    obtain ⟨qb181, qb182, qb183, qb184⟩ := tk_eq (ta := ta) (x := (pf5 11)) (y := (pf 11)) (by first | with_reducible rfl | with_reducible assumption | omega)
    have hmk_v9 := e17
    have hfm_v9 := MkN.frb (b := v9.toInt) hmk_v9 (by first | with_reducible rfl | with_reducible assumption | omega) (by first | with_reducible rfl | with_reducible assumption | omega)
    have hfs := FsI.mk hfs hmk_v9 (by first | with_reducible rfl | with_reducible assumption | omega) (by first | with_reducible rfl | with_reducible assumption | omega) (by first | with_reducible rfl | with_reducible assumption | omega) (by first | with_reducible rfl | with_reducible assumption | omega)
    have hfb := hfb.tr hfm_v9 (by first | with_reducible rfl | with_reducible assumption | omega)
    have hf_14_v9 := hmk_v9.2.1 (by decide) (by decide)
    have hf_15_v9 := hmk_v9.2.2.1
    have hf_17_v9 := hmk_v9.2.2.2.2.1
    have hf_18_v9 := hmk_v9.2.2.2.2.2.1
    have hf_19_v9 := hmk_v9.2.2.2.2.2.2.1
    have hf_21_v9 := hmk_v9.2.2.2.2.2.2.2.2.1
    clear hmk_v9 hfm_v9
    have hw : pw D A s.heap H locs [wdP cs h r g tf ta pf5 na6 ma7 wa cf ca ef ea xf xa] := hw
    have lv9 := Int32.le_toInt v9
    have uv9 := Int32.toInt_lt v9
    refine lv_istore_n (lv' := [(2, .int v9), (0, .ref h), (1, .int p0)]) S.x S.b d_Mpg_conditioned_20 rfl hl (by decide) rfl (fun ls hl => ?_)
    refine lv_aload_n S.x S.b d_Mpg_conditioned_21 rfl (lv_at hl 1 rfl) ?_
    refine th_callv (ps0 := [wdP cs h r g tf ta pf na ma wa cf ca ef ea xf xa]) (pr := []) (pcs := [wdP cs h r g tf ta pf5 na6 ma7 wa cf ca ef ea xf xa]) (As := []) (rest := []) (c_mp_opens l D cs h r g tf ta na6 ma7 wa cf ca ef ea xf xa pf5   (show 0 ≤ (pf5 11).toInt from by first | exact oz_f3ebed1ad0 e12 g0 | omega) (show (pf5 11).toInt < (tf 6).toInt from by first | exact oz_0f9fb0345d g11 e12 | omega) (show (tf 6).toInt ≤ 2049 from by first | exact g2 | omega) (show (pf5 11).toInt + 1 < (tf 6).toInt from by first | exact oz_4b6b8b2f72 g11 e12 | omega) (show 0 ≤ (pf5 12).toInt from by first | exact oz_f3ebed1ad0 e13 g3 | omega) (show (pf5 12).toInt ≤ 60 from by first | exact oz_a3db38fa3c e13 g4 | omega) hlf htk) S hT hw (oX_call (P := (fun A U H => (oN A U H) ∧ (oP A g U H))) (pr := []) (oG_and oG_N oG_P) hw hA ⟨hN, hP⟩) (px_recv hT hw 0 0 rfl rfl rfl) m11_238 m11_235 m11_237 ms_9_1 m1_21 q_Mpg_opens ⟨show 7 + 1 ≤ (8 * lv + 26) from by first | with_reducible rfl | with_reducible assumption | omega, show 8 + (1 + 11) + 150 ≤ (220 * lv + 1200) from by first | with_reducible rfl | with_reducible assumption | omega⟩ hl.1 rfl (Nat.le_of_ble_eq_true rfl) d_Mpg_conditioned_22 ⟨Nat.le_of_ble_eq_true rfl, Nat.le_of_ble_eq_true rfl⟩ hne hlk hA hAe (fun o t h => Or.inr h) ?_ (fun p21 H locs hp21 hw => ?_)
    · exact fun p1 H1 locs1 hp hw => by obtain ⟨pq1, pq2, pq3, pq4, rfl, hq1, hq2⟩ := hp; exact ⟨_, ⟨pq1, pq2, pq3, pq4, rfl, hq1, hq2⟩, hw⟩
    obtain ⟨pf20, rfl, e23, e24, e25, e26, e27, e28, e29, e30, e31, e32⟩ := hp21
    have e23 : (pf20 11).toInt = (pf5 11).toInt + 1 := e23
    have e24 : (pf20 11).toInt < (tf 6).toInt := e24
    have e25 : bp ta (pf5 11) + sz ta (pf5 11) ≤ bp ta (pf20 11) := e25
    have e26 : 1 ≤ sz ta (pf5 11) := e26
    have e27 : (pf20 12).toInt = (pf5 12).toInt + 1 := e27
    have e28 : (pf5 12).toInt < 60 := e28
    have e29 : (pf20 13).toInt = (pf5 13).toInt := e29
    have e30 : (pf20 24).toInt = (pf5 24).toInt := e30
    have e31 : (pf20 25).toInt = (pf5 25).toInt := e31
    have e32 : (pf20 26).toInt = (pf5 26).toInt := e32
    have hw : pw D A s.heap H locs [wdP cs h r g tf ta pf20 na6 ma7 wa cf ca ef ea xf xa] := hw
    refine lv_aload_n S.x S.b d_Mpg_conditioned_25 rfl (lv_at hl 1 rfl) ?_
    refine px_get S k_Mpg hT hw 0 0 17 (v := .ref (r 17)) rfl rfl rfl (by decide) m10_1 d_Mpg_conditioned_26 ?_
    refine lv_iload_n S.x S.b d_Mpg_conditioned_29 rfl (lv_at hl 0 rfl) ?_
    refine lv_aload_n S.x S.b d_Mpg_conditioned_30 rfl (lv_at hl 1 rfl) ?_
    refine th_calli (ps0 := [wdP cs h r g tf ta pf na ma wa cf ca ef ea xf xa]) (pr := []) (pcs := [wdP cs h r g tf ta pf20 na6 ma7 wa cf ca ef ea xf xa]) (As := []) (rest := [.int v9, .ref (r 17)]) (c_mp_inParentheses l D cs h r g tf ta cf ca ef ea xf xa pf20 na6 ma7 wa  lv (show 0 ≤ (pf20 11).toInt from by first | exact oz_f3f97b7517 e23 e12 g0 | omega) (show (pf20 11).toInt < (tf 6).toInt from by first | exact e24 | omega) (show (tf 6).toInt ≤ 2049 from by first | exact g2 | omega) (show 0 ≤ (pf20 12).toInt from by first | exact oz_87be06313f e27 e13 g8 g7 | omega) (show (pf20 12).toInt ≤ 60 from by first | exact oz_6710fd9021 e27 e28 | omega) (show 0 ≤ (pf20 13).toInt from by first | exact oz_78ad3463af e29 e11 g5 | omega) (show (pf20 13).toInt ≤ (pf20 11).toInt + 10 from by first | exact oz_80eb9436a0 e23 e29 e11 e12 g6 | omega) (show 0 ≤ (pf20 26).toInt from by first | exact oz_e2fef14871 e32 e16 g7 | omega) (show (pf20 26).toInt ≤ (pf20 12).toInt from by first | exact oz_e919e29b70 e27 e32 e13 e16 g8 | omega) (show 61 ≤ (pf20 12).toInt + (lv : Int) from by first | exact oz_927a742cd4 g9 e27 e13 | omega) (show lv ≤ 61 from by first | exact g10 | omega) hlf htk (FsI.le (N' := (pf20 13).toInt) hfs (by first | with_reducible rfl | with_reducible assumption | omega))) S hT hw (oX_call (P := (fun A U H => (oN A U H) ∧ (oP A g U H))) (pr := []) (oG_and oG_N oG_P) hw hA ⟨hN, hP⟩) (px_recv hT hw 0 0 rfl rfl rfl) m12_129 m12_126 m12_128 ms_11_1 m1_21 q_Mpg_inParentheses ⟨show (8 * lv + 22) + 1 ≤ (8 * lv + 26) from by first | with_reducible rfl | with_reducible assumption | omega, show 8 + (2 + 11) + (220 * lv + 1000) ≤ (220 * lv + 1200) from by first | with_reducible rfl | with_reducible assumption | omega⟩ hl.1 rfl (Nat.le_of_ble_eq_true rfl) d_Mpg_conditioned_31 ⟨Nat.le_of_ble_eq_true rfl, Nat.le_of_ble_eq_true rfl⟩ hne hlk hA hAe (fun o t h => Or.inr h) ?_ (fun v42 p41 H locs hp41 hw => ?_)
    · exact fun p1 H1 locs1 hp hw => by obtain ⟨pq1, pq2, pq3, pq4, rfl, hq1, hq2⟩ := hp; exact ⟨_, ⟨pq1, pq2, pq3, pq4, rfl, hq1, hq2⟩, hw⟩
    obtain ⟨pf37, na38, ma39, wa40, rfl, e43, e44, e45, e46, e47, e48, e49, e50, e51, e52, e53, e54, e55⟩ := hp41
    have e43 : (pf20 11).toInt + 1 ≤ (pf37 11).toInt := e43
    have e44 : (pf37 11).toInt < (tf 6).toInt := e44
    have e45 : (pf20 13).toInt + 1 ≤ (pf37 13).toInt := e45
    have e46 : (pf37 13).toInt - (pf20 13).toInt ≤ (pf37 11).toInt - (pf20 11).toInt := e46
    have e47 : bp ta (pf20 11) + 1 ≤ bp ta (pf37 11) := e47
    have e48 : (pf37 12).toInt = (pf20 12).toInt := e48
    have e49 : (pf37 24).toInt = (pf20 24).toInt := e49
    have e50 : (pf37 25).toInt = (pf20 25).toInt := e50
    have e51 : (pf37 26).toInt = (pf20 26).toInt := e51
    have e52 : FrB (pf20 13).toInt na6 ma7 na38 ma39 := e52
    have hf_14_v9 := (fb_n e52 (by first | with_reducible rfl | with_reducible assumption | omega) (by first | with_reducible rfl | with_reducible assumption | omega)).trans hf_14_v9
    have hf_15_v9 := (fb_n e52 (by first | with_reducible rfl | with_reducible assumption | omega) (by first | with_reducible rfl | with_reducible assumption | omega)).trans hf_15_v9
    have hf_17_v9 := (fb_n e52 (by first | with_reducible rfl | with_reducible assumption | omega) (by first | with_reducible rfl | with_reducible assumption | omega)).trans hf_17_v9
    have hf_18_v9 := (fb_m e52 (by first | with_reducible rfl | with_reducible assumption | omega) (by first | with_reducible rfl | with_reducible assumption | omega)).trans hf_18_v9
    have hf_19_v9 := (fb_m e52 (by first | with_reducible rfl | with_reducible assumption | omega) (by first | with_reducible rfl | with_reducible assumption | omega)).trans hf_19_v9
    have hf_21_v9 := (fb_n e52 (by first | with_reducible rfl | with_reducible assumption | omega) (by first | with_reducible rfl | with_reducible assumption | omega)).trans hf_21_v9
    have hfb := hfb.tr e52 (by first | with_reducible rfl | with_reducible assumption | omega)
    have e53 : FrW (pf20 26).toInt wa wa40 := e53
    have hfw := hfw.tr e53 (by first | with_reducible rfl | with_reducible assumption | omega)
    have e54 : ExR ta (tf 6).toInt na38 ma39 v42 (pf20 13).toInt (pf37 13).toInt (3 * (bp ta (pf37 11) - bp ta (pf20 11)) - 6) (pf20 12).toInt := e54
    have ht_v42 := e54
    have hn_ht_v42 := ht_v42.num
    have e55 : FsI (tf 6).toInt (pf37 13).toInt na38 := e55
    have hfs := e55
    have hw : pw D A s.heap H locs [wdP cs h r g tf ta pf37 na38 ma39 wa40 cf ca ef ea xf xa] := hw
    have lv42 := Int32.le_toInt v42
    have uv42 := Int32.toInt_lt v42
    refine px_iast S hT hw 0 13 (n := 2100) (f := (na38 17)) (x := v9) (y := v42) rfl gp_17 (vp_in_iff.mpr (by constructor <;> omega)) d_Mpg_conditioned_34 (w' := wdP cs h r g tf ta pf37 (va_up na38 17 (upd (na38 17) v9.toNatClampNeg v42)) ma39 wa40 cf ca ef ea xf xa) (ps' := [wdP cs h r g tf ta pf37 (va_up na38 17 (upd (na38 17) v9.toNatClampNeg v42)) ma39 wa40 cf ca ef ea xf xa]) sp_17 rfl (fun H locs hw => ?_)
    obtain ⟨na56, hu_na56⟩ : ∃ y : Nat → Nat → Int32, y = va_up na38 17 (upd (na38 17) v9.toNatClampNeg v42) := ⟨_, rfl⟩
    have hw : pw D A s.heap _ _ [wdP cs h r g tf ta pf37 na56 ma39 wa40 cf ca ef ea xf xa] := (by rw [hu_na56]; exact hw)
    obtain ⟨ht_v42, hdq_v42⟩ := ht_v42.ag (ag_n hu_na56 (by first | with_reducible rfl | with_reducible assumption | omega) (by first | with_reducible rfl | with_reducible assumption | omega)) (by first | with_reducible rfl | with_reducible assumption | omega)
    have hn_ht_v42 := ht_v42.num
    have hf_14_v9 := (fl_n hu_na56 (by decide)).trans hf_14_v9
    have hf_15_v9 := (fl_n hu_na56 (by decide)).trans hf_15_v9
    have hf_21_v9 := (fl_n hu_na56 (by decide)).trans hf_21_v9
    have hf_17_v9 : na56 17 v9.toNatClampNeg = v42 := (by rw [hu_na56, va_up_s, pk_us])
    have hfs : FsI _ _ na56 := (by rw [hu_na56]; exact FsI.un hfs (by decide))
    have hfb : FrB (pf 13).toInt na ma na56 ma39 := (by rw [hu_na56]; exact FrB.un hfb (by first | with_reducible rfl | with_reducible assumption | omega) (by first | with_reducible rfl | with_reducible assumption | omega))
    refine lv_aload_n S.x S.b d_Mpg_conditioned_35 rfl (lv_at hl 1 rfl) ?_
    refine px_get S k_Mpg hT hw 0 0 18 (v := .ref (r 18)) rfl rfl rfl (by decide) m10_3 d_Mpg_conditioned_36 ?_
    refine lv_iload_n S.x S.b d_Mpg_conditioned_39 rfl (lv_at hl 0 rfl) ?_
    refine lv_aload_n S.x S.b d_Mpg_conditioned_40 rfl (lv_at hl 1 rfl) ?_
    refine th_calli (ps0 := [wdP cs h r g tf ta pf na ma wa cf ca ef ea xf xa]) (pr := []) (pcs := [wdP cs h r g tf ta pf37 na56 ma39 wa40 cf ca ef ea xf xa]) (As := []) (rest := [.int v9, .ref (r 18)]) ((hLT.go (by first | with_reducible rfl | with_reducible assumption | omega)) h r g tf ta cf ca ef ea xf xa pf37 na56 ma39 wa40   (show 0 ≤ (pf37 11).toInt from by first | exact oz_5d987d7f9e e43 e23 g0 e12 | omega) (show (pf37 11).toInt < (tf 6).toInt from by first | exact e44 | omega) (show (tf 6).toInt ≤ 2049 from by first | exact g2 | omega) (show 0 ≤ (pf37 12).toInt from by first | exact oz_18519da00e e48 e27 e13 g3 | omega) (show (pf37 12).toInt ≤ 60 from by first | exact oz_1a76b13bbc e48 e27 e28 | omega) (show 0 ≤ (pf37 13).toInt from by first | exact oz_3ff206910e e45 e29 e11 g5 | omega) (show (pf37 13).toInt ≤ (pf37 11).toInt + 10 from by first | exact oz_71bf65dd77 e46 e23 e29 g6 e11 e12 | omega) (show 0 ≤ (pf37 26).toInt from by first | exact oz_11e71ee49a e51 e32 e16 g7 | omega) (show (pf37 26).toInt ≤ (pf37 12).toInt from by first | exact oz_2e44d917d0 e48 e51 e27 e32 e13 e16 g8 | omega) (show 61 ≤ (pf37 12).toInt + ((lv - 1 : Nat) : Int) from by first | with_reducible rfl | with_reducible assumption | omega) (show lv - 1 ≤ 61 from by first | with_reducible rfl | with_reducible assumption | omega) hlf htk (FsI.le (N' := (pf37 13).toInt) hfs (by first | with_reducible rfl | with_reducible assumption | omega))) S hT hw (oX_call (P := (fun A U H => (oN A U H) ∧ (oP A g U H))) (pr := []) (oG_and oG_N oG_P) hw hA ⟨hN, hP⟩) (px_recv hT hw 0 0 rfl rfl rfl) m12_101 m12_98 m12_100 ms_10_10 m1_21 q_Mpg_statement ⟨show (8 * (lv - 1) + 28) + 1 ≤ (8 * lv + 26) from by first | with_reducible rfl | with_reducible assumption | omega, show 8 + (2 + 11) + (220 * (lv - 1) + 1280) ≤ (220 * lv + 1200) from by first | with_reducible rfl | with_reducible assumption | omega⟩ hl.1 rfl (Nat.le_of_ble_eq_true rfl) d_Mpg_conditioned_41 ⟨Nat.le_of_ble_eq_true rfl, Nat.le_of_ble_eq_true rfl⟩ hne hlk hA hAe (fun o t h => Or.inr h) ?_ (fun v66 p65 H locs hp65 hw => ?_)
    · exact fun p1 H1 locs1 hp hw => by obtain ⟨pq1, pq2, pq3, pq4, rfl, hq1, hq2⟩ := hp; exact ⟨_, ⟨pq1, pq2, pq3, pq4, rfl, hq1, hq2⟩, hw⟩
    obtain ⟨pf61, na62, ma63, wa64, rfl, e67, e68, e69, e70, e71, e72, e73, e74, e75, e76, e77, e78, e79⟩ := hp65
    have e67 : (pf37 11).toInt + 1 ≤ (pf61 11).toInt := e67
    have e68 : (pf61 11).toInt < (tf 6).toInt := e68
    have e69 : (pf37 13).toInt + 1 ≤ (pf61 13).toInt := e69
    have e70 : (pf61 13).toInt - (pf37 13).toInt ≤ (pf61 11).toInt - (pf37 11).toInt := e70
    have e71 : bp ta (pf37 11) + 1 ≤ bp ta (pf61 11) := e71
    have e72 : (pf61 12).toInt = (pf37 12).toInt := e72
    have e73 : (pf61 24).toInt = (pf37 24).toInt := e73
    have e74 : (pf61 25).toInt = (pf37 25).toInt := e74
    have e75 : (pf61 26).toInt = (pf37 26).toInt := e75
    have e76 : FrB (pf37 13).toInt na56 ma39 na62 ma63 := e76
    have ht_v42 := ht_v42.kp (FrB.le e76 (by first | with_reducible rfl | with_reducible assumption | omega)) (by first | with_reducible rfl | with_reducible assumption | omega)
    have hn_ht_v42 := ht_v42.num
    have hdq_v42 := dp_fb (x := v42) e76 (by first | with_reducible rfl | with_reducible assumption | omega) (by first | with_reducible rfl | with_reducible assumption | omega)
    have hf_14_v9 := (fb_n e76 (by first | with_reducible rfl | with_reducible assumption | omega) (by first | with_reducible rfl | with_reducible assumption | omega)).trans hf_14_v9
    have hf_15_v9 := (fb_n e76 (by first | with_reducible rfl | with_reducible assumption | omega) (by first | with_reducible rfl | with_reducible assumption | omega)).trans hf_15_v9
    have hf_17_v9 := (fb_n e76 (by first | with_reducible rfl | with_reducible assumption | omega) (by first | with_reducible rfl | with_reducible assumption | omega)).trans hf_17_v9
    have hf_18_v9 := (fb_m e76 (by first | with_reducible rfl | with_reducible assumption | omega) (by first | with_reducible rfl | with_reducible assumption | omega)).trans hf_18_v9
    have hf_19_v9 := (fb_m e76 (by first | with_reducible rfl | with_reducible assumption | omega) (by first | with_reducible rfl | with_reducible assumption | omega)).trans hf_19_v9
    have hf_21_v9 := (fb_n e76 (by first | with_reducible rfl | with_reducible assumption | omega) (by first | with_reducible rfl | with_reducible assumption | omega)).trans hf_21_v9
    have hfb := hfb.tr e76 (by first | with_reducible rfl | with_reducible assumption | omega)
    have e77 : FrW (pf37 26).toInt wa40 wa64 := e77
    have hfw := hfw.tr e77 (by first | with_reducible rfl | with_reducible assumption | omega)
    have e78 : VlS ta (tf 6).toInt na62 ma63 v66 (pf37 13).toInt (pf61 13).toInt (3 * (bp ta (pf61 11) - bp ta (pf37 11))) (200 - (pf37 12).toInt) := e78
    have hv_v66 := e78
    have hn_hv_v66 := hv_v66.num fs_ok
    have e79 : FsI (tf 6).toInt (pf61 13).toInt na62 := e79
    have hfs := e79
    have hw : pw D A s.heap H locs [wdP cs h r g tf ta pf61 na62 ma63 wa64 cf ca ef ea xf xa] := hw
    have lv66 := Int32.le_toInt v66
    have uv66 := Int32.toInt_lt v66
    refine px_iast S hT hw 0 14 (n := 2100) (f := (ma63 18)) (x := v9) (y := v66) rfl gp_18 (vp_in_iff.mpr (by constructor <;> omega)) d_Mpg_conditioned_44 (w' := wdP cs h r g tf ta pf61 na62 (va_up ma63 18 (upd (ma63 18) v9.toNatClampNeg v66)) wa64 cf ca ef ea xf xa) (ps' := [wdP cs h r g tf ta pf61 na62 (va_up ma63 18 (upd (ma63 18) v9.toNatClampNeg v66)) wa64 cf ca ef ea xf xa]) sp_18 rfl (fun H locs hw => ?_)
    obtain ⟨ma80, hu_ma80⟩ : ∃ y : Nat → Nat → Int32, y = va_up ma63 18 (upd (ma63 18) v9.toNatClampNeg v66) := ⟨_, rfl⟩
    have hw : pw D A s.heap _ _ [wdP cs h r g tf ta pf61 na62 ma80 wa64 cf ca ef ea xf xa] := (by rw [hu_ma80]; exact hw)
    obtain ⟨ht_v42, hdq_v42⟩ := ht_v42.ag (ag_m hu_ma80 (by first | with_reducible rfl | with_reducible assumption | omega) (by first | with_reducible rfl | with_reducible assumption | omega)) (by first | with_reducible rfl | with_reducible assumption | omega)
    have hn_ht_v42 := ht_v42.num
    have hv_v66 := hv_v66.ag fs_ok (ag_m hu_ma80 (by first | with_reducible rfl | with_reducible assumption | omega) (by first | with_reducible rfl | with_reducible assumption | omega))
    have hf_19_v9 := (fl_n hu_ma80 (by decide)).trans hf_19_v9
    have hf_18_v9 : ma80 18 v9.toNatClampNeg = v66 := (by rw [hu_ma80, va_up_s, pk_us])
    have hfb : FrB (pf 13).toInt na ma na62 ma80 := (by rw [hu_ma80]; exact FrB.um hfb (by first | with_reducible rfl | with_reducible assumption | omega) (by first | with_reducible rfl | with_reducible assumption | omega))
    refine lv_iload_n S.x S.b d_Mpg_conditioned_45 rfl (lv_at hl 2 rfl) ?_
    refine lv_iconst (v := 4) S.x S.b d_Mpg_conditioned_46 (by decide) ?_
    refine lv_icmp_ne (tgt := 68) S.x S.b d_Mpg_conditioned_47 (by decide) (fun c81 => ?_) (fun c81 => ?_)
    · have nc81 : ¬ p0.toInt = (4 : Int) := mt (i_eq (x := p0) (y := 4)).mpr c81
      refine lv_aload_n S.x S.b d_Mpg_conditioned_68 rfl (lv_at hl 1 rfl) ?_
      refine lv_dup S.x S.b d_Mpg_conditioned_69 rfl ?_
      refine px_get S k_Mpg hT hw 0 0 12 (v := .int (pf61 12)) rfl rfl rfl (by decide) m9_236 d_Mpg_conditioned_70 ?_
      refine lv_iconst (v := 1) S.x S.b d_Mpg_conditioned_73 (by decide) ?_
      refine lv_isub S.x S.b d_Mpg_conditioned_74 ?_
      have lr82 := Int32.le_toInt (pf61 12)
      have ur82 := Int32.toInt_lt (pf61 12)
      refine lv_topi (fun z83 ez83 => ?_)
      have tz83 : z83.toInt = ((pf61 12).toInt - (1 : Int) + 2147483648) % 4294967296 - 2147483648 := by rw [ez83]; exact i_sub (pf61 12) 1
      have lz83 := Int32.le_toInt z83
      have uz83 := Int32.toInt_lt z83
      try replace tz83 : z83.toInt = (pf61 12).toInt - (1 : Int) := by omega
      refine px_put S k_Mpg hT hw 0 0 12 rfl rfl (by decide) m9_236 rfl rfl rfl (Nat.le_of_ble_eq_true rfl) d_Mpg_conditioned_75 (w' := wdP cs h r g tf ta (upd pf61 12 z83) na62 ma80 wa64 cf ca ef ea xf xa) (ps' := [wdP cs h r g tf ta (upd pf61 12 z83) na62 ma80 wa64 cf ca ef ea xf xa]) rfl rfl (fun H locs hw => ?_)
      refine lv_iload_n S.x S.b d_Mpg_conditioned_78 rfl (lv_at hl 0 rfl) ?_
      exact th_iret (v := v9) S hr rfl hlk hAe hw (⟨(upd pf61 12 z83), na62, ma80, wa64, rfl, (show (pf 11).toInt + 1 ≤ (pf61 11).toInt from by first | exact oz_fab1129875 e12 e67 e23 e43 | omega), (show (pf61 11).toInt < (tf 6).toInt from by first | exact e68 | omega), (show (pf 13).toInt + 1 ≤ (pf61 13).toInt from by first | exact oz_155f230f77 e11 e69 e29 e45 | omega), (show (pf61 13).toInt - (pf 13).toInt ≤ (pf61 11).toInt - (pf 11).toInt from by first | exact oz_cc65ad6daa e11 e12 e70 e23 e29 e46 | omega), (show bp ta (pf 11) + 1 ≤ bp ta (pf61 11) from by first | exact oz_b24f33b5c5 qb181 e71 e25 e47 e26 | omega), (show z83.toInt = (pf 12).toInt from by first | exact oz_e4189b3632 e13 tz83 e27 e72 e48 | omega), (show (pf61 24).toInt = (pf 24).toInt from by first | exact oz_ff3084e3c1 e14 e73 e30 e49 | omega), (show (pf61 25).toInt = (pf 25).toInt from by first | exact oz_ff3084e3c1 e15 e74 e31 e50 | omega), (show (pf61 26).toInt = (pf 26).toInt from by first | exact oz_ff3084e3c1 e16 e75 e32 e51 | omega), (show FrB (pf 13).toInt na ma na62 ma80 from hfb), (show FrW (pf 26).toInt wa wa64 from hfw), (show VlS ta (tf 6).toInt na62 ma80 v9 (pf 13).toInt (pf61 13).toInt (3 * (bp ta (pf61 11) - bp ta (pf 11))) (200 - (pf 12).toInt) from (VlV.le (st_if (hi := (pf61 13).toInt) (D := (199 - (pf 12).toInt)) ⟨by first | with_reducible rfl | with_reducible assumption | omega, hf_14_v9, hf_15_v9, ⟨by first | with_reducible rfl | with_reducible assumption | omega, by first | with_reducible rfl | with_reducible assumption | omega⟩, hf_21_v9⟩ (by decide) hf_17_v9 hf_18_v9 hf_19_v9 (by first | with_reducible rfl | with_reducible assumption | omega) (VlV.le (exr_vl ht_v42 (by first | with_reducible rfl | with_reducible assumption | omega)) (Int.le_refl _) (Int.le_refl _) (Int.le_refl _) (by first | with_reducible rfl | with_reducible assumption | omega)) (VlV.le hv_v66 (Int.le_refl _) (Int.le_refl _) (Int.le_refl _) (by first | with_reducible rfl | with_reducible assumption | omega)) (oz_n (lo := (pf61 13).toInt) (W := 0) (by decide) (by first | with_reducible rfl | with_reducible assumption | omega)) (fun _ => by decide) (by first | with_reducible rfl | with_reducible assumption | omega) (by first | with_reducible rfl | with_reducible assumption | omega) (by first | with_reducible rfl | with_reducible assumption | omega) (by first | with_reducible rfl | with_reducible assumption | omega)) (by first | with_reducible rfl | with_reducible assumption | omega) (by first | with_reducible rfl | with_reducible assumption | omega) (by first | with_reducible rfl | with_reducible assumption | omega) (by first | with_reducible rfl | with_reducible assumption | omega))), (show FsI (tf 6).toInt (pf61 13).toInt na62 from (FsI.le hfs (by first | with_reducible rfl | with_reducible assumption | omega)))⟩) d_Mpg_conditioned_79
    · have nc81 : p0.toInt = (4 : Int) := (i_eq (x := p0) (y := 4)).mp c81
      exfalso
      omega
  · have nc1 : p0.toInt = (4 : Int) := (i_eq (x := p0) (y := 4)).mp c1
    refine lv_bipush (v := 24) S.x S.b d_Mpg_conditioned_6 (by decide) ?_
    refine lv_goto (tgt := 13) S.x S.b d_Mpg_conditioned_8 (by decide) ?_
    refine lv_aload_n S.x S.b d_Mpg_conditioned_13 rfl (lv_at hl 0 rfl) ?_
    refine px_get S k_Mpg hT hw 0 0 11 (v := .int (pf 11)) rfl rfl rfl (by decide) m9_235 d_Mpg_conditioned_14 ?_
    refine px_calli (pr := []) (px_runV (As := [.int 24, .int (pf 11)]) (rest := []) S (c_mp_make l D cs h r g tf ta wa cf ca ef ea xf xa pf na ma 24 (pf 11)  (show 0 ≤ (pf 13).toInt from by first | exact g5 | omega) (show (pf 13).toInt < 2100 from by first | exact oz_1fa6c9b1b7 g6 g11 g2 | omega) _) hT (pr := []) (pcs := [wdP cs h r g tf ta pf na ma wa cf ca ef ea xf xa]) hw px_X.tt (px_recv hT hw 0 0 rfl rfl rfl) m11_209 m11_206 m11_208 ms_8_12 m1_21 q_Mpg_make ⟨show 0 + 1 ≤ (8 * lv + 26) from by first | with_reducible rfl | with_reducible assumption | omega, show 8 + (3 + 11) + 0 ≤ (220 * lv + 1200) from by first | with_reducible rfl | with_reducible assumption | omega⟩ hl.1 rfl (Nat.le_of_ble_eq_true rfl) d_Mpg_conditioned_17 ⟨Nat.le_of_ble_eq_true rfl, Nat.le_of_ble_eq_true rfl⟩) hw hA (fun v91 p90 H locs hp90 hw => ?_)
    obtain ⟨pf87, na88, ma89, rfl, e92, e93, e94, e95, e96, e97, e98, e99⟩ := hp90
    have e92 : v91.toInt = (pf 13).toInt := e92
    have e93 : (pf87 13).toInt = (pf 13).toInt + 1 := e93
    have e94 : (pf87 11).toInt = (pf 11).toInt := e94
    have e95 : (pf87 12).toInt = (pf 12).toInt := e95
    have e96 : (pf87 24).toInt = (pf 24).toInt := e96
    have e97 : (pf87 25).toInt = (pf 25).toInt := e97
    have e98 : (pf87 26).toInt = (pf 26).toInt := e98
    have e99 : MkN na ma na88 ma89 v91 (24 : Int32) (pf 11) := e99
    obtain ⟨qb1001, qb1002, qb1003, qb1004⟩ := tk_eq (ta := ta) (x := (pf87 11)) (y := (pf 11)) (by first | with_reducible rfl | with_reducible assumption | omega)
    have hmk_v91 := e99
    have hfm_v91 := MkN.frb (b := v91.toInt) hmk_v91 (by first | with_reducible rfl | with_reducible assumption | omega) (by first | with_reducible rfl | with_reducible assumption | omega)
    have hfs := FsI.mk hfs hmk_v91 (by first | with_reducible rfl | with_reducible assumption | omega) (by first | with_reducible rfl | with_reducible assumption | omega) (by first | with_reducible rfl | with_reducible assumption | omega) (by first | with_reducible rfl | with_reducible assumption | omega)
    have hfb := hfb.tr hfm_v91 (by first | with_reducible rfl | with_reducible assumption | omega)
    have hf_14_v91 := hmk_v91.2.1 (by decide) (by decide)
    have hf_15_v91 := hmk_v91.2.2.1
    have hf_17_v91 := hmk_v91.2.2.2.2.1
    have hf_18_v91 := hmk_v91.2.2.2.2.2.1
    have hf_19_v91 := hmk_v91.2.2.2.2.2.2.1
    have hf_21_v91 := hmk_v91.2.2.2.2.2.2.2.2.1
    clear hmk_v91 hfm_v91
    have hw : pw D A s.heap H locs [wdP cs h r g tf ta pf87 na88 ma89 wa cf ca ef ea xf xa] := hw
    have lv91 := Int32.le_toInt v91
    have uv91 := Int32.toInt_lt v91
    refine lv_istore_n (lv' := [(2, .int v91), (0, .ref h), (1, .int p0)]) S.x S.b d_Mpg_conditioned_20 rfl hl (by decide) rfl (fun ls hl => ?_)
    refine lv_aload_n S.x S.b d_Mpg_conditioned_21 rfl (lv_at hl 1 rfl) ?_
    refine th_callv (ps0 := [wdP cs h r g tf ta pf na ma wa cf ca ef ea xf xa]) (pr := []) (pcs := [wdP cs h r g tf ta pf87 na88 ma89 wa cf ca ef ea xf xa]) (As := []) (rest := []) (c_mp_opens l D cs h r g tf ta na88 ma89 wa cf ca ef ea xf xa pf87   (show 0 ≤ (pf87 11).toInt from by first | exact oz_f3ebed1ad0 e94 g0 | omega) (show (pf87 11).toInt < (tf 6).toInt from by first | exact oz_0f9fb0345d g11 e94 | omega) (show (tf 6).toInt ≤ 2049 from by first | exact g2 | omega) (show (pf87 11).toInt + 1 < (tf 6).toInt from by first | exact oz_4b6b8b2f72 g11 e94 | omega) (show 0 ≤ (pf87 12).toInt from by first | exact oz_f3ebed1ad0 e95 g3 | omega) (show (pf87 12).toInt ≤ 60 from by first | exact oz_a3db38fa3c e95 g4 | omega) hlf htk) S hT hw (oX_call (P := (fun A U H => (oN A U H) ∧ (oP A g U H))) (pr := []) (oG_and oG_N oG_P) hw hA ⟨hN, hP⟩) (px_recv hT hw 0 0 rfl rfl rfl) m11_238 m11_235 m11_237 ms_9_1 m1_21 q_Mpg_opens ⟨show 7 + 1 ≤ (8 * lv + 26) from by first | with_reducible rfl | with_reducible assumption | omega, show 8 + (1 + 11) + 150 ≤ (220 * lv + 1200) from by first | with_reducible rfl | with_reducible assumption | omega⟩ hl.1 rfl (Nat.le_of_ble_eq_true rfl) d_Mpg_conditioned_22 ⟨Nat.le_of_ble_eq_true rfl, Nat.le_of_ble_eq_true rfl⟩ hne hlk hA hAe (fun o t h => Or.inr h) ?_ (fun p103 H locs hp103 hw => ?_)
    · exact fun p1 H1 locs1 hp hw => by obtain ⟨pq1, pq2, pq3, pq4, rfl, hq1, hq2⟩ := hp; exact ⟨_, ⟨pq1, pq2, pq3, pq4, rfl, hq1, hq2⟩, hw⟩
    obtain ⟨pf102, rfl, e105, e106, e107, e108, e109, e110, e111, e112, e113, e114⟩ := hp103
    have e105 : (pf102 11).toInt = (pf87 11).toInt + 1 := e105
    have e106 : (pf102 11).toInt < (tf 6).toInt := e106
    have e107 : bp ta (pf87 11) + sz ta (pf87 11) ≤ bp ta (pf102 11) := e107
    have e108 : 1 ≤ sz ta (pf87 11) := e108
    have e109 : (pf102 12).toInt = (pf87 12).toInt + 1 := e109
    have e110 : (pf87 12).toInt < 60 := e110
    have e111 : (pf102 13).toInt = (pf87 13).toInt := e111
    have e112 : (pf102 24).toInt = (pf87 24).toInt := e112
    have e113 : (pf102 25).toInt = (pf87 25).toInt := e113
    have e114 : (pf102 26).toInt = (pf87 26).toInt := e114
    have hw : pw D A s.heap H locs [wdP cs h r g tf ta pf102 na88 ma89 wa cf ca ef ea xf xa] := hw
    refine lv_aload_n S.x S.b d_Mpg_conditioned_25 rfl (lv_at hl 1 rfl) ?_
    refine px_get S k_Mpg hT hw 0 0 17 (v := .ref (r 17)) rfl rfl rfl (by decide) m10_1 d_Mpg_conditioned_26 ?_
    refine lv_iload_n S.x S.b d_Mpg_conditioned_29 rfl (lv_at hl 0 rfl) ?_
    refine lv_aload_n S.x S.b d_Mpg_conditioned_30 rfl (lv_at hl 1 rfl) ?_
    refine th_calli (ps0 := [wdP cs h r g tf ta pf na ma wa cf ca ef ea xf xa]) (pr := []) (pcs := [wdP cs h r g tf ta pf102 na88 ma89 wa cf ca ef ea xf xa]) (As := []) (rest := [.int v91, .ref (r 17)]) (c_mp_inParentheses l D cs h r g tf ta cf ca ef ea xf xa pf102 na88 ma89 wa  lv (show 0 ≤ (pf102 11).toInt from by first | exact oz_f3f97b7517 e105 e94 g0 | omega) (show (pf102 11).toInt < (tf 6).toInt from by first | exact e106 | omega) (show (tf 6).toInt ≤ 2049 from by first | exact g2 | omega) (show 0 ≤ (pf102 12).toInt from by first | exact oz_87be06313f e109 e95 g8 g7 | omega) (show (pf102 12).toInt ≤ 60 from by first | exact oz_6710fd9021 e109 e110 | omega) (show 0 ≤ (pf102 13).toInt from by first | exact oz_78ad3463af e111 e93 g5 | omega) (show (pf102 13).toInt ≤ (pf102 11).toInt + 10 from by first | exact oz_80eb9436a0 e105 e111 e93 e94 g6 | omega) (show 0 ≤ (pf102 26).toInt from by first | exact oz_e2fef14871 e114 e98 g7 | omega) (show (pf102 26).toInt ≤ (pf102 12).toInt from by first | exact oz_e919e29b70 e109 e114 e95 e98 g8 | omega) (show 61 ≤ (pf102 12).toInt + (lv : Int) from by first | exact oz_927a742cd4 g9 e109 e95 | omega) (show lv ≤ 61 from by first | exact g10 | omega) hlf htk (FsI.le (N' := (pf102 13).toInt) hfs (by first | with_reducible rfl | with_reducible assumption | omega))) S hT hw (oX_call (P := (fun A U H => (oN A U H) ∧ (oP A g U H))) (pr := []) (oG_and oG_N oG_P) hw hA ⟨hN, hP⟩) (px_recv hT hw 0 0 rfl rfl rfl) m12_129 m12_126 m12_128 ms_11_1 m1_21 q_Mpg_inParentheses ⟨show (8 * lv + 22) + 1 ≤ (8 * lv + 26) from by first | with_reducible rfl | with_reducible assumption | omega, show 8 + (2 + 11) + (220 * lv + 1000) ≤ (220 * lv + 1200) from by first | with_reducible rfl | with_reducible assumption | omega⟩ hl.1 rfl (Nat.le_of_ble_eq_true rfl) d_Mpg_conditioned_31 ⟨Nat.le_of_ble_eq_true rfl, Nat.le_of_ble_eq_true rfl⟩ hne hlk hA hAe (fun o t h => Or.inr h) ?_ (fun v124 p123 H locs hp123 hw => ?_)
    · exact fun p1 H1 locs1 hp hw => by obtain ⟨pq1, pq2, pq3, pq4, rfl, hq1, hq2⟩ := hp; exact ⟨_, ⟨pq1, pq2, pq3, pq4, rfl, hq1, hq2⟩, hw⟩
    obtain ⟨pf119, na120, ma121, wa122, rfl, e125, e126, e127, e128, e129, e130, e131, e132, e133, e134, e135, e136, e137⟩ := hp123
    have e125 : (pf102 11).toInt + 1 ≤ (pf119 11).toInt := e125
    have e126 : (pf119 11).toInt < (tf 6).toInt := e126
    have e127 : (pf102 13).toInt + 1 ≤ (pf119 13).toInt := e127
    have e128 : (pf119 13).toInt - (pf102 13).toInt ≤ (pf119 11).toInt - (pf102 11).toInt := e128
    have e129 : bp ta (pf102 11) + 1 ≤ bp ta (pf119 11) := e129
    have e130 : (pf119 12).toInt = (pf102 12).toInt := e130
    have e131 : (pf119 24).toInt = (pf102 24).toInt := e131
    have e132 : (pf119 25).toInt = (pf102 25).toInt := e132
    have e133 : (pf119 26).toInt = (pf102 26).toInt := e133
    have e134 : FrB (pf102 13).toInt na88 ma89 na120 ma121 := e134
    have hf_14_v91 := (fb_n e134 (by first | with_reducible rfl | with_reducible assumption | omega) (by first | with_reducible rfl | with_reducible assumption | omega)).trans hf_14_v91
    have hf_15_v91 := (fb_n e134 (by first | with_reducible rfl | with_reducible assumption | omega) (by first | with_reducible rfl | with_reducible assumption | omega)).trans hf_15_v91
    have hf_17_v91 := (fb_n e134 (by first | with_reducible rfl | with_reducible assumption | omega) (by first | with_reducible rfl | with_reducible assumption | omega)).trans hf_17_v91
    have hf_18_v91 := (fb_m e134 (by first | with_reducible rfl | with_reducible assumption | omega) (by first | with_reducible rfl | with_reducible assumption | omega)).trans hf_18_v91
    have hf_19_v91 := (fb_m e134 (by first | with_reducible rfl | with_reducible assumption | omega) (by first | with_reducible rfl | with_reducible assumption | omega)).trans hf_19_v91
    have hf_21_v91 := (fb_n e134 (by first | with_reducible rfl | with_reducible assumption | omega) (by first | with_reducible rfl | with_reducible assumption | omega)).trans hf_21_v91
    have hfb := hfb.tr e134 (by first | with_reducible rfl | with_reducible assumption | omega)
    have e135 : FrW (pf102 26).toInt wa wa122 := e135
    have hfw := hfw.tr e135 (by first | with_reducible rfl | with_reducible assumption | omega)
    have e136 : ExR ta (tf 6).toInt na120 ma121 v124 (pf102 13).toInt (pf119 13).toInt (3 * (bp ta (pf119 11) - bp ta (pf102 11)) - 6) (pf102 12).toInt := e136
    have ht_v124 := e136
    have hn_ht_v124 := ht_v124.num
    have e137 : FsI (tf 6).toInt (pf119 13).toInt na120 := e137
    have hfs := e137
    have hw : pw D A s.heap H locs [wdP cs h r g tf ta pf119 na120 ma121 wa122 cf ca ef ea xf xa] := hw
    have lv124 := Int32.le_toInt v124
    have uv124 := Int32.toInt_lt v124
    refine px_iast S hT hw 0 13 (n := 2100) (f := (na120 17)) (x := v91) (y := v124) rfl gp_17 (vp_in_iff.mpr (by constructor <;> omega)) d_Mpg_conditioned_34 (w' := wdP cs h r g tf ta pf119 (va_up na120 17 (upd (na120 17) v91.toNatClampNeg v124)) ma121 wa122 cf ca ef ea xf xa) (ps' := [wdP cs h r g tf ta pf119 (va_up na120 17 (upd (na120 17) v91.toNatClampNeg v124)) ma121 wa122 cf ca ef ea xf xa]) sp_17 rfl (fun H locs hw => ?_)
    obtain ⟨na138, hu_na138⟩ : ∃ y : Nat → Nat → Int32, y = va_up na120 17 (upd (na120 17) v91.toNatClampNeg v124) := ⟨_, rfl⟩
    have hw : pw D A s.heap _ _ [wdP cs h r g tf ta pf119 na138 ma121 wa122 cf ca ef ea xf xa] := (by rw [hu_na138]; exact hw)
    obtain ⟨ht_v124, hdq_v124⟩ := ht_v124.ag (ag_n hu_na138 (by first | with_reducible rfl | with_reducible assumption | omega) (by first | with_reducible rfl | with_reducible assumption | omega)) (by first | with_reducible rfl | with_reducible assumption | omega)
    have hn_ht_v124 := ht_v124.num
    have hf_14_v91 := (fl_n hu_na138 (by decide)).trans hf_14_v91
    have hf_15_v91 := (fl_n hu_na138 (by decide)).trans hf_15_v91
    have hf_21_v91 := (fl_n hu_na138 (by decide)).trans hf_21_v91
    have hf_17_v91 : na138 17 v91.toNatClampNeg = v124 := (by rw [hu_na138, va_up_s, pk_us])
    have hfs : FsI _ _ na138 := (by rw [hu_na138]; exact FsI.un hfs (by decide))
    have hfb : FrB (pf 13).toInt na ma na138 ma121 := (by rw [hu_na138]; exact FrB.un hfb (by first | with_reducible rfl | with_reducible assumption | omega) (by first | with_reducible rfl | with_reducible assumption | omega))
    refine lv_aload_n S.x S.b d_Mpg_conditioned_35 rfl (lv_at hl 1 rfl) ?_
    refine px_get S k_Mpg hT hw 0 0 18 (v := .ref (r 18)) rfl rfl rfl (by decide) m10_3 d_Mpg_conditioned_36 ?_
    refine lv_iload_n S.x S.b d_Mpg_conditioned_39 rfl (lv_at hl 0 rfl) ?_
    refine lv_aload_n S.x S.b d_Mpg_conditioned_40 rfl (lv_at hl 1 rfl) ?_
    refine th_calli (ps0 := [wdP cs h r g tf ta pf na ma wa cf ca ef ea xf xa]) (pr := []) (pcs := [wdP cs h r g tf ta pf119 na138 ma121 wa122 cf ca ef ea xf xa]) (As := []) (rest := [.int v91, .ref (r 18)]) ((hLT.go (by first | with_reducible rfl | with_reducible assumption | omega)) h r g tf ta cf ca ef ea xf xa pf119 na138 ma121 wa122   (show 0 ≤ (pf119 11).toInt from by first | exact oz_5d987d7f9e e125 e105 g0 e94 | omega) (show (pf119 11).toInt < (tf 6).toInt from by first | exact e126 | omega) (show (tf 6).toInt ≤ 2049 from by first | exact g2 | omega) (show 0 ≤ (pf119 12).toInt from by first | exact oz_18519da00e e130 e109 e95 g3 | omega) (show (pf119 12).toInt ≤ 60 from by first | exact oz_1a76b13bbc e130 e109 e110 | omega) (show 0 ≤ (pf119 13).toInt from by first | exact oz_3ff206910e e127 e111 e93 g5 | omega) (show (pf119 13).toInt ≤ (pf119 11).toInt + 10 from by first | exact oz_71bf65dd77 e128 e105 e111 g6 e93 e94 | omega) (show 0 ≤ (pf119 26).toInt from by first | exact oz_11e71ee49a e133 e114 e98 g7 | omega) (show (pf119 26).toInt ≤ (pf119 12).toInt from by first | exact oz_2e44d917d0 e130 e133 e109 e114 e95 e98 g8 | omega) (show 61 ≤ (pf119 12).toInt + ((lv - 1 : Nat) : Int) from by first | with_reducible rfl | with_reducible assumption | omega) (show lv - 1 ≤ 61 from by first | with_reducible rfl | with_reducible assumption | omega) hlf htk (FsI.le (N' := (pf119 13).toInt) hfs (by first | with_reducible rfl | with_reducible assumption | omega))) S hT hw (oX_call (P := (fun A U H => (oN A U H) ∧ (oP A g U H))) (pr := []) (oG_and oG_N oG_P) hw hA ⟨hN, hP⟩) (px_recv hT hw 0 0 rfl rfl rfl) m12_101 m12_98 m12_100 ms_10_10 m1_21 q_Mpg_statement ⟨show (8 * (lv - 1) + 28) + 1 ≤ (8 * lv + 26) from by first | with_reducible rfl | with_reducible assumption | omega, show 8 + (2 + 11) + (220 * (lv - 1) + 1280) ≤ (220 * lv + 1200) from by first | with_reducible rfl | with_reducible assumption | omega⟩ hl.1 rfl (Nat.le_of_ble_eq_true rfl) d_Mpg_conditioned_41 ⟨Nat.le_of_ble_eq_true rfl, Nat.le_of_ble_eq_true rfl⟩ hne hlk hA hAe (fun o t h => Or.inr h) ?_ (fun v148 p147 H locs hp147 hw => ?_)
    · exact fun p1 H1 locs1 hp hw => by obtain ⟨pq1, pq2, pq3, pq4, rfl, hq1, hq2⟩ := hp; exact ⟨_, ⟨pq1, pq2, pq3, pq4, rfl, hq1, hq2⟩, hw⟩
    obtain ⟨pf143, na144, ma145, wa146, rfl, e149, e150, e151, e152, e153, e154, e155, e156, e157, e158, e159, e160, e161⟩ := hp147
    have e149 : (pf119 11).toInt + 1 ≤ (pf143 11).toInt := e149
    have e150 : (pf143 11).toInt < (tf 6).toInt := e150
    have e151 : (pf119 13).toInt + 1 ≤ (pf143 13).toInt := e151
    have e152 : (pf143 13).toInt - (pf119 13).toInt ≤ (pf143 11).toInt - (pf119 11).toInt := e152
    have e153 : bp ta (pf119 11) + 1 ≤ bp ta (pf143 11) := e153
    have e154 : (pf143 12).toInt = (pf119 12).toInt := e154
    have e155 : (pf143 24).toInt = (pf119 24).toInt := e155
    have e156 : (pf143 25).toInt = (pf119 25).toInt := e156
    have e157 : (pf143 26).toInt = (pf119 26).toInt := e157
    have e158 : FrB (pf119 13).toInt na138 ma121 na144 ma145 := e158
    have ht_v124 := ht_v124.kp (FrB.le e158 (by first | with_reducible rfl | with_reducible assumption | omega)) (by first | with_reducible rfl | with_reducible assumption | omega)
    have hn_ht_v124 := ht_v124.num
    have hdq_v124 := dp_fb (x := v124) e158 (by first | with_reducible rfl | with_reducible assumption | omega) (by first | with_reducible rfl | with_reducible assumption | omega)
    have hf_14_v91 := (fb_n e158 (by first | with_reducible rfl | with_reducible assumption | omega) (by first | with_reducible rfl | with_reducible assumption | omega)).trans hf_14_v91
    have hf_15_v91 := (fb_n e158 (by first | with_reducible rfl | with_reducible assumption | omega) (by first | with_reducible rfl | with_reducible assumption | omega)).trans hf_15_v91
    have hf_17_v91 := (fb_n e158 (by first | with_reducible rfl | with_reducible assumption | omega) (by first | with_reducible rfl | with_reducible assumption | omega)).trans hf_17_v91
    have hf_18_v91 := (fb_m e158 (by first | with_reducible rfl | with_reducible assumption | omega) (by first | with_reducible rfl | with_reducible assumption | omega)).trans hf_18_v91
    have hf_19_v91 := (fb_m e158 (by first | with_reducible rfl | with_reducible assumption | omega) (by first | with_reducible rfl | with_reducible assumption | omega)).trans hf_19_v91
    have hf_21_v91 := (fb_n e158 (by first | with_reducible rfl | with_reducible assumption | omega) (by first | with_reducible rfl | with_reducible assumption | omega)).trans hf_21_v91
    have hfb := hfb.tr e158 (by first | with_reducible rfl | with_reducible assumption | omega)
    have e159 : FrW (pf119 26).toInt wa122 wa146 := e159
    have hfw := hfw.tr e159 (by first | with_reducible rfl | with_reducible assumption | omega)
    have e160 : VlS ta (tf 6).toInt na144 ma145 v148 (pf119 13).toInt (pf143 13).toInt (3 * (bp ta (pf143 11) - bp ta (pf119 11))) (200 - (pf119 12).toInt) := e160
    have hv_v148 := e160
    have hn_hv_v148 := hv_v148.num fs_ok
    have e161 : FsI (tf 6).toInt (pf143 13).toInt na144 := e161
    have hfs := e161
    have hw : pw D A s.heap H locs [wdP cs h r g tf ta pf143 na144 ma145 wa146 cf ca ef ea xf xa] := hw
    have lv148 := Int32.le_toInt v148
    have uv148 := Int32.toInt_lt v148
    refine px_iast S hT hw 0 14 (n := 2100) (f := (ma145 18)) (x := v91) (y := v148) rfl gp_18 (vp_in_iff.mpr (by constructor <;> omega)) d_Mpg_conditioned_44 (w' := wdP cs h r g tf ta pf143 na144 (va_up ma145 18 (upd (ma145 18) v91.toNatClampNeg v148)) wa146 cf ca ef ea xf xa) (ps' := [wdP cs h r g tf ta pf143 na144 (va_up ma145 18 (upd (ma145 18) v91.toNatClampNeg v148)) wa146 cf ca ef ea xf xa]) sp_18 rfl (fun H locs hw => ?_)
    obtain ⟨ma162, hu_ma162⟩ : ∃ y : Nat → Nat → Int32, y = va_up ma145 18 (upd (ma145 18) v91.toNatClampNeg v148) := ⟨_, rfl⟩
    have hw : pw D A s.heap _ _ [wdP cs h r g tf ta pf143 na144 ma162 wa146 cf ca ef ea xf xa] := (by rw [hu_ma162]; exact hw)
    obtain ⟨ht_v124, hdq_v124⟩ := ht_v124.ag (ag_m hu_ma162 (by first | with_reducible rfl | with_reducible assumption | omega) (by first | with_reducible rfl | with_reducible assumption | omega)) (by first | with_reducible rfl | with_reducible assumption | omega)
    have hn_ht_v124 := ht_v124.num
    have hv_v148 := hv_v148.ag fs_ok (ag_m hu_ma162 (by first | with_reducible rfl | with_reducible assumption | omega) (by first | with_reducible rfl | with_reducible assumption | omega))
    have hf_19_v91 := (fl_n hu_ma162 (by decide)).trans hf_19_v91
    have hf_18_v91 : ma162 18 v91.toNatClampNeg = v148 := (by rw [hu_ma162, va_up_s, pk_us])
    have hfb : FrB (pf 13).toInt na ma na144 ma162 := (by rw [hu_ma162]; exact FrB.um hfb (by first | with_reducible rfl | with_reducible assumption | omega) (by first | with_reducible rfl | with_reducible assumption | omega))
    refine lv_iload_n S.x S.b d_Mpg_conditioned_45 rfl (lv_at hl 2 rfl) ?_
    refine lv_iconst (v := 4) S.x S.b d_Mpg_conditioned_46 (by decide) ?_
    refine lv_icmp_ne (tgt := 68) S.x S.b d_Mpg_conditioned_47 (by decide) (fun c163 => ?_) (fun c163 => ?_)
    · have nc163 : ¬ p0.toInt = (4 : Int) := mt (i_eq (x := p0) (y := 4)).mpr c163
      exfalso
      omega
    · have nc163 : p0.toInt = (4 : Int) := (i_eq (x := p0) (y := 4)).mp c163
      refine lv_aload_n S.x S.b d_Mpg_conditioned_50 rfl (lv_at hl 1 rfl) ?_
      refine lv_iconst (v := 5) S.x S.b d_Mpg_conditioned_51 (by decide) ?_
      refine px_calli (pr := []) (px_runV (As := [.int 5]) (rest := []) S (c_mp_takesKey l D cs h r g tf ta na144 ma162 wa146 cf ca ef ea xf xa pf143 5  (show 0 ≤ (pf143 11).toInt from by first | exact oz_abaa8eb164 e149 e125 g0 e94 e105 | omega) (show (pf143 11).toInt < (tf 6).toInt from by first | exact e150 | omega) (show (tf 6).toInt ≤ 2049 from by first | exact g2 | omega) htk _) hT (pr := []) (pcs := [wdP cs h r g tf ta pf143 na144 ma162 wa146 cf ca ef ea xf xa]) hw px_X.tt (px_recv hT hw 0 0 rfl rfl rfl) m12_133 m12_130 m12_132 ms_11_2 m1_21 q_Mpg_takesKey ⟨show 1 + 1 ≤ (8 * lv + 26) from by first | with_reducible rfl | with_reducible assumption | omega, show 8 + (3 + 11) + 40 ≤ (220 * lv + 1200) from by first | with_reducible rfl | with_reducible assumption | omega⟩ hl.1 rfl (Nat.le_of_ble_eq_true rfl) d_Mpg_conditioned_52 ⟨Nat.le_of_ble_eq_true rfl, Nat.le_of_ble_eq_true rfl⟩) hw hA (fun v167 p166 H locs hp166 hw => ?_)
      obtain ⟨pf165, rfl, e168, e169, e170, e171, e172, e173, e174, e175, e176⟩ := hp166
      have e168 := z_rng e168
      have e169 : (pf165 11).toInt = (pf143 11).toInt + v167.toInt := e169
      have e170 : (pf165 11).toInt < (tf 6).toInt := e170
      have e171 : bp ta (pf143 11) + v167.toInt ≤ bp ta (pf165 11) := e171
      have e172 : (pf165 12).toInt = (pf143 12).toInt := e172
      have e173 : (pf165 13).toInt = (pf143 13).toInt := e173
      have e174 : (pf165 24).toInt = (pf143 24).toInt := e174
      have e175 : (pf165 25).toInt = (pf143 25).toInt := e175
      have e176 : (pf165 26).toInt = (pf143 26).toInt := e176
      have hw : pw D A s.heap H locs [wdP cs h r g tf ta pf165 na144 ma162 wa146 cf ca ef ea xf xa] := hw
      have lv167 := Int32.le_toInt v167
      have uv167 := Int32.toInt_lt v167
      refine lv_if_eq (tgt := 68) S.x S.b d_Mpg_conditioned_55 (by decide) (fun c177 => ?_) (fun c177 => ?_)
      · have nc177 : v167.toInt = (0 : Int) := (i_eq (x := v167) (y := 0)).mp c177
        refine lv_aload_n S.x S.b d_Mpg_conditioned_68 rfl (lv_at hl 1 rfl) ?_
        refine lv_dup S.x S.b d_Mpg_conditioned_69 rfl ?_
        refine px_get S k_Mpg hT hw 0 0 12 (v := .int (pf165 12)) rfl rfl rfl (by decide) m9_236 d_Mpg_conditioned_70 ?_
        refine lv_iconst (v := 1) S.x S.b d_Mpg_conditioned_73 (by decide) ?_
        refine lv_isub S.x S.b d_Mpg_conditioned_74 ?_
        have lr178 := Int32.le_toInt (pf165 12)
        have ur178 := Int32.toInt_lt (pf165 12)
        refine lv_topi (fun z179 ez179 => ?_)
        have tz179 : z179.toInt = ((pf165 12).toInt - (1 : Int) + 2147483648) % 4294967296 - 2147483648 := by rw [ez179]; exact i_sub (pf165 12) 1
        have lz179 := Int32.le_toInt z179
        have uz179 := Int32.toInt_lt z179
        try replace tz179 : z179.toInt = (pf165 12).toInt - (1 : Int) := by omega
        refine px_put S k_Mpg hT hw 0 0 12 rfl rfl (by decide) m9_236 rfl rfl rfl (Nat.le_of_ble_eq_true rfl) d_Mpg_conditioned_75 (w' := wdP cs h r g tf ta (upd pf165 12 z179) na144 ma162 wa146 cf ca ef ea xf xa) (ps' := [wdP cs h r g tf ta (upd pf165 12 z179) na144 ma162 wa146 cf ca ef ea xf xa]) rfl rfl (fun H locs hw => ?_)
        refine lv_iload_n S.x S.b d_Mpg_conditioned_78 rfl (lv_at hl 0 rfl) ?_
        exact th_iret (v := v91) S hr rfl hlk hAe hw (⟨(upd pf165 12 z179), na144, ma162, wa146, rfl, (show (pf 11).toInt + 1 ≤ (pf165 11).toInt from by first | exact oz_5f17c95f56 e94 e169 e105 e149 e168.1 e125 | omega), (show (pf165 11).toInt < (tf 6).toInt from by first | exact e170 | omega), (show (pf 13).toInt + 1 ≤ (pf165 13).toInt from by first | exact oz_e86c8ea46a e93 e173 e111 e151 e127 | omega), (show (pf165 13).toInt - (pf 13).toInt ≤ (pf165 11).toInt - (pf 11).toInt from by first | exact oz_c9dc3cd592 e93 e94 e169 e173 e105 e111 e152 e168.1 e128 | omega), (show bp ta (pf 11) + 1 ≤ bp ta (pf165 11) from by first | exact oz_f329b8fe74 qb1001 e171 e107 e153 e168.1 e108 e129 | omega), (show z179.toInt = (pf 12).toInt from by first | exact oz_9150f5354a e95 tz179 e109 e172 e130 e154 | omega), (show (pf165 24).toInt = (pf 24).toInt from by first | exact oz_0867352dd7 e96 e174 e112 e155 e131 | omega), (show (pf165 25).toInt = (pf 25).toInt from by first | exact oz_0867352dd7 e97 e175 e113 e156 e132 | omega), (show (pf165 26).toInt = (pf 26).toInt from by first | exact oz_0867352dd7 e98 e176 e114 e157 e133 | omega), (show FrB (pf 13).toInt na ma na144 ma162 from hfb), (show FrW (pf 26).toInt wa wa146 from hfw), (show VlS ta (tf 6).toInt na144 ma162 v91 (pf 13).toInt (pf165 13).toInt (3 * (bp ta (pf165 11) - bp ta (pf 11))) (200 - (pf 12).toInt) from (VlV.le (st_if (hi := (pf165 13).toInt) (D := (199 - (pf 12).toInt)) ⟨by first | with_reducible rfl | with_reducible assumption | omega, hf_14_v91, hf_15_v91, ⟨by first | with_reducible rfl | with_reducible assumption | omega, by first | with_reducible rfl | with_reducible assumption | omega⟩, hf_21_v91⟩ (by decide) hf_17_v91 hf_18_v91 hf_19_v91 (by first | with_reducible rfl | with_reducible assumption | omega) (VlV.le (exr_vl ht_v124 (by first | with_reducible rfl | with_reducible assumption | omega)) (Int.le_refl _) (Int.le_refl _) (Int.le_refl _) (by first | with_reducible rfl | with_reducible assumption | omega)) (VlV.le hv_v148 (Int.le_refl _) (Int.le_refl _) (Int.le_refl _) (by first | with_reducible rfl | with_reducible assumption | omega)) (oz_n (lo := (pf165 13).toInt) (W := 0) (by decide) (by first | with_reducible rfl | with_reducible assumption | omega)) (fun h => absurd rfl h) (by first | with_reducible rfl | with_reducible assumption | omega) (by first | with_reducible rfl | with_reducible assumption | omega) (by first | with_reducible rfl | with_reducible assumption | omega) (by first | with_reducible rfl | with_reducible assumption | omega)) (by first | with_reducible rfl | with_reducible assumption | omega) (by first | with_reducible rfl | with_reducible assumption | omega) (by first | with_reducible rfl | with_reducible assumption | omega) (by first | with_reducible rfl | with_reducible assumption | omega))), (show FsI (tf 6).toInt (pf165 13).toInt na144 from (FsI.le hfs (by first | with_reducible rfl | with_reducible assumption | omega)))⟩) d_Mpg_conditioned_79
      · have nc177 : ¬ v167.toInt = (0 : Int) := mt (i_eq (x := v167) (y := 0)).mpr c177
        refine lv_aload_n S.x S.b d_Mpg_conditioned_58 rfl (lv_at hl 1 rfl) ?_
        refine px_get S k_Mpg hT hw 0 0 19 (v := .ref (r 19)) rfl rfl rfl (by decide) m10_5 d_Mpg_conditioned_59 ?_
        refine lv_iload_n S.x S.b d_Mpg_conditioned_62 rfl (lv_at hl 0 rfl) ?_
        refine lv_aload_n S.x S.b d_Mpg_conditioned_63 rfl (lv_at hl 1 rfl) ?_
        refine th_calli (ps0 := [wdP cs h r g tf ta pf na ma wa cf ca ef ea xf xa]) (pr := []) (pcs := [wdP cs h r g tf ta pf165 na144 ma162 wa146 cf ca ef ea xf xa]) (As := []) (rest := [.int v91, .ref (r 19)]) ((hLT.go (by first | with_reducible rfl | with_reducible assumption | omega)) h r g tf ta cf ca ef ea xf xa pf165 na144 ma162 wa146   (show 0 ≤ (pf165 11).toInt from by first | exact oz_719dfece60 e169 e149 e168.1 g0 e94 e105 e125 | omega) (show (pf165 11).toInt < (tf 6).toInt from by first | exact e170 | omega) (show (tf 6).toInt ≤ 2049 from by first | exact g2 | omega) (show 0 ≤ (pf165 12).toInt from by first | exact oz_1a41beca24 e172 e154 e130 e109 e95 g8 g7 | omega) (show (pf165 12).toInt ≤ 60 from by first | exact oz_7382568b78 e172 e154 e130 e109 e110 | omega) (show 0 ≤ (pf165 13).toInt from by first | exact oz_571e5ef8c2 e173 e151 e127 e111 e93 g5 | omega) (show (pf165 13).toInt ≤ (pf165 11).toInt + 10 from by first | exact oz_6c72f0f831 e169 e173 e152 e168.1 g6 e94 e105 e128 e93 e111 | omega) (show 0 ≤ (pf165 26).toInt from by first | exact oz_6003ce2c41 e176 e157 e133 e114 e98 g7 | omega) (show (pf165 26).toInt ≤ (pf165 12).toInt from by first | exact oz_492d0f64aa e172 e176 e154 e157 e130 e133 e109 e114 e95 e98 g8 | omega) (show 61 ≤ (pf165 12).toInt + ((lv - 1 : Nat) : Int) from by first | with_reducible rfl | with_reducible assumption | omega) (show lv - 1 ≤ 61 from by first | with_reducible rfl | with_reducible assumption | omega) hlf htk (FsI.le (N' := (pf165 13).toInt) hfs (by first | with_reducible rfl | with_reducible assumption | omega))) S hT hw (oX_call (P := (fun A U H => (oN A U H) ∧ (oP A g U H))) (pr := []) (oG_and oG_N oG_P) hw hA ⟨hN, hP⟩) (px_recv hT hw 0 0 rfl rfl rfl) m12_101 m12_98 m12_100 ms_10_10 m1_21 q_Mpg_statement ⟨show (8 * (lv - 1) + 28) + 1 ≤ (8 * lv + 26) from by first | with_reducible rfl | with_reducible assumption | omega, show 8 + (2 + 11) + (220 * (lv - 1) + 1280) ≤ (220 * lv + 1200) from by first | with_reducible rfl | with_reducible assumption | omega⟩ hl.1 rfl (Nat.le_of_ble_eq_true rfl) d_Mpg_conditioned_64 ⟨Nat.le_of_ble_eq_true rfl, Nat.le_of_ble_eq_true rfl⟩ hne hlk hA hAe (fun o t h => Or.inr h) ?_ (fun v189 p188 H locs hp188 hw => ?_)
        · exact fun p1 H1 locs1 hp hw => by obtain ⟨pq1, pq2, pq3, pq4, rfl, hq1, hq2⟩ := hp; exact ⟨_, ⟨pq1, pq2, pq3, pq4, rfl, hq1, hq2⟩, hw⟩
        obtain ⟨pf184, na185, ma186, wa187, rfl, e190, e191, e192, e193, e194, e195, e196, e197, e198, e199, e200, e201, e202⟩ := hp188
        have e190 : (pf165 11).toInt + 1 ≤ (pf184 11).toInt := e190
        have e191 : (pf184 11).toInt < (tf 6).toInt := e191
        have e192 : (pf165 13).toInt + 1 ≤ (pf184 13).toInt := e192
        have e193 : (pf184 13).toInt - (pf165 13).toInt ≤ (pf184 11).toInt - (pf165 11).toInt := e193
        have e194 : bp ta (pf165 11) + 1 ≤ bp ta (pf184 11) := e194
        have e195 : (pf184 12).toInt = (pf165 12).toInt := e195
        have e196 : (pf184 24).toInt = (pf165 24).toInt := e196
        have e197 : (pf184 25).toInt = (pf165 25).toInt := e197
        have e198 : (pf184 26).toInt = (pf165 26).toInt := e198
        have e199 : FrB (pf165 13).toInt na144 ma162 na185 ma186 := e199
        have ht_v124 := ht_v124.kp (FrB.le e199 (by first | with_reducible rfl | with_reducible assumption | omega)) (by first | with_reducible rfl | with_reducible assumption | omega)
        have hn_ht_v124 := ht_v124.num
        have hdq_v124 := dp_fb (x := v124) e199 (by first | with_reducible rfl | with_reducible assumption | omega) (by first | with_reducible rfl | with_reducible assumption | omega)
        have hf_14_v91 := (fb_n e199 (by first | with_reducible rfl | with_reducible assumption | omega) (by first | with_reducible rfl | with_reducible assumption | omega)).trans hf_14_v91
        have hf_15_v91 := (fb_n e199 (by first | with_reducible rfl | with_reducible assumption | omega) (by first | with_reducible rfl | with_reducible assumption | omega)).trans hf_15_v91
        have hf_17_v91 := (fb_n e199 (by first | with_reducible rfl | with_reducible assumption | omega) (by first | with_reducible rfl | with_reducible assumption | omega)).trans hf_17_v91
        have hf_18_v91 := (fb_m e199 (by first | with_reducible rfl | with_reducible assumption | omega) (by first | with_reducible rfl | with_reducible assumption | omega)).trans hf_18_v91
        have hf_19_v91 := (fb_m e199 (by first | with_reducible rfl | with_reducible assumption | omega) (by first | with_reducible rfl | with_reducible assumption | omega)).trans hf_19_v91
        have hf_21_v91 := (fb_n e199 (by first | with_reducible rfl | with_reducible assumption | omega) (by first | with_reducible rfl | with_reducible assumption | omega)).trans hf_21_v91
        have hv_v148 := hv_v148.ag fs_ok (FrB.ag e199 (by first | with_reducible rfl | with_reducible assumption | omega))
        have hfb := hfb.tr e199 (by first | with_reducible rfl | with_reducible assumption | omega)
        have e200 : FrW (pf165 26).toInt wa146 wa187 := e200
        have hfw := hfw.tr e200 (by first | with_reducible rfl | with_reducible assumption | omega)
        have e201 : VlS ta (tf 6).toInt na185 ma186 v189 (pf165 13).toInt (pf184 13).toInt (3 * (bp ta (pf184 11) - bp ta (pf165 11))) (200 - (pf165 12).toInt) := e201
        have hv_v189 := e201
        have hn_hv_v189 := hv_v189.num fs_ok
        have e202 : FsI (tf 6).toInt (pf184 13).toInt na185 := e202
        have hfs := e202
        have hw : pw D A s.heap H locs [wdP cs h r g tf ta pf184 na185 ma186 wa187 cf ca ef ea xf xa] := hw
        have lv189 := Int32.le_toInt v189
        have uv189 := Int32.toInt_lt v189
        refine px_iast S hT hw 0 15 (n := 2100) (f := (ma186 19)) (x := v91) (y := v189) rfl gp_19 (vp_in_iff.mpr (by constructor <;> omega)) d_Mpg_conditioned_67 (w' := wdP cs h r g tf ta pf184 na185 (va_up ma186 19 (upd (ma186 19) v91.toNatClampNeg v189)) wa187 cf ca ef ea xf xa) (ps' := [wdP cs h r g tf ta pf184 na185 (va_up ma186 19 (upd (ma186 19) v91.toNatClampNeg v189)) wa187 cf ca ef ea xf xa]) sp_19 rfl (fun H locs hw => ?_)
        obtain ⟨ma203, hu_ma203⟩ : ∃ y : Nat → Nat → Int32, y = va_up ma186 19 (upd (ma186 19) v91.toNatClampNeg v189) := ⟨_, rfl⟩
        have hw : pw D A s.heap _ _ [wdP cs h r g tf ta pf184 na185 ma203 wa187 cf ca ef ea xf xa] := (by rw [hu_ma203]; exact hw)
        obtain ⟨ht_v124, hdq_v124⟩ := ht_v124.ag (ag_m hu_ma203 (by first | with_reducible rfl | with_reducible assumption | omega) (by first | with_reducible rfl | with_reducible assumption | omega)) (by first | with_reducible rfl | with_reducible assumption | omega)
        have hn_ht_v124 := ht_v124.num
        have hv_v148 := hv_v148.ag fs_ok (ag_m hu_ma203 (by first | with_reducible rfl | with_reducible assumption | omega) (by first | with_reducible rfl | with_reducible assumption | omega))
        have hv_v189 := hv_v189.ag fs_ok (ag_m hu_ma203 (by first | with_reducible rfl | with_reducible assumption | omega) (by first | with_reducible rfl | with_reducible assumption | omega))
        have hf_18_v91 := (fl_n hu_ma203 (by decide)).trans hf_18_v91
        have hf_19_v91 : ma203 19 v91.toNatClampNeg = v189 := (by rw [hu_ma203, va_up_s, pk_us])
        have hfb : FrB (pf 13).toInt na ma na185 ma203 := (by rw [hu_ma203]; exact FrB.um hfb (by first | with_reducible rfl | with_reducible assumption | omega) (by first | with_reducible rfl | with_reducible assumption | omega))
        refine lv_aload_n S.x S.b d_Mpg_conditioned_68 rfl (lv_at hl 1 rfl) ?_
        refine lv_dup S.x S.b d_Mpg_conditioned_69 rfl ?_
        refine px_get S k_Mpg hT hw 0 0 12 (v := .int (pf184 12)) rfl rfl rfl (by decide) m9_236 d_Mpg_conditioned_70 ?_
        refine lv_iconst (v := 1) S.x S.b d_Mpg_conditioned_73 (by decide) ?_
        refine lv_isub S.x S.b d_Mpg_conditioned_74 ?_
        have lr204 := Int32.le_toInt (pf184 12)
        have ur204 := Int32.toInt_lt (pf184 12)
        refine lv_topi (fun z205 ez205 => ?_)
        have tz205 : z205.toInt = ((pf184 12).toInt - (1 : Int) + 2147483648) % 4294967296 - 2147483648 := by rw [ez205]; exact i_sub (pf184 12) 1
        have lz205 := Int32.le_toInt z205
        have uz205 := Int32.toInt_lt z205
        try replace tz205 : z205.toInt = (pf184 12).toInt - (1 : Int) := by omega
        refine px_put S k_Mpg hT hw 0 0 12 rfl rfl (by decide) m9_236 rfl rfl rfl (Nat.le_of_ble_eq_true rfl) d_Mpg_conditioned_75 (w' := wdP cs h r g tf ta (upd pf184 12 z205) na185 ma203 wa187 cf ca ef ea xf xa) (ps' := [wdP cs h r g tf ta (upd pf184 12 z205) na185 ma203 wa187 cf ca ef ea xf xa]) rfl rfl (fun H locs hw => ?_)
        refine lv_iload_n S.x S.b d_Mpg_conditioned_78 rfl (lv_at hl 0 rfl) ?_
        exact th_iret (v := v91) S hr rfl hlk hAe hw (⟨(upd pf184 12 z205), na185, ma203, wa187, rfl, (show (pf 11).toInt + 1 ≤ (pf184 11).toInt from by first | exact oz_535e69da1d e94 e190 e105 e169 e125 e149 e168.1 | omega), (show (pf184 11).toInt < (tf 6).toInt from by first | exact e191 | omega), (show (pf 13).toInt + 1 ≤ (pf184 13).toInt from by first | exact oz_e191051be6 e93 e192 e111 e173 e127 e151 | omega), (show (pf184 13).toInt - (pf 13).toInt ≤ (pf184 11).toInt - (pf 11).toInt from by first | exact oz_ab815a9d62 e93 e94 e193 e105 e111 e169 e173 e128 e152 e168.1 | omega), (show bp ta (pf 11) + 1 ≤ bp ta (pf184 11) from by first | exact oz_b1489df459 qb1001 e194 e107 e171 e108 e129 e153 e168.1 | omega), (show z205.toInt = (pf 12).toInt from by first | exact oz_f3d5d0e710 e95 tz205 e109 e195 e130 e172 e154 | omega), (show (pf184 24).toInt = (pf 24).toInt from by first | exact oz_a783471c71 e96 e196 e112 e174 e131 e155 | omega), (show (pf184 25).toInt = (pf 25).toInt from by first | exact oz_a783471c71 e97 e197 e113 e175 e132 e156 | omega), (show (pf184 26).toInt = (pf 26).toInt from by first | exact oz_a783471c71 e98 e198 e114 e176 e133 e157 | omega), (show FrB (pf 13).toInt na ma na185 ma203 from hfb), (show FrW (pf 26).toInt wa wa187 from hfw), (show VlS ta (tf 6).toInt na185 ma203 v91 (pf 13).toInt (pf184 13).toInt (3 * (bp ta (pf184 11) - bp ta (pf 11))) (200 - (pf 12).toInt) from (VlV.le (st_if (hi := (pf184 13).toInt) (D := (199 - (pf 12).toInt)) ⟨by first | with_reducible rfl | with_reducible assumption | omega, hf_14_v91, hf_15_v91, ⟨by first | with_reducible rfl | with_reducible assumption | omega, by first | with_reducible rfl | with_reducible assumption | omega⟩, hf_21_v91⟩ (by decide) hf_17_v91 hf_18_v91 hf_19_v91 (by first | with_reducible rfl | with_reducible assumption | omega) (VlV.le (exr_vl ht_v124 (by first | with_reducible rfl | with_reducible assumption | omega)) (Int.le_refl _) (Int.le_refl _) (Int.le_refl _) (by first | with_reducible rfl | with_reducible assumption | omega)) (VlV.le hv_v148 (Int.le_refl _) (Int.le_refl _) (Int.le_refl _) (by first | with_reducible rfl | with_reducible assumption | omega)) (oz_v fs_ok (VlV.le hv_v189 (Int.le_refl _) (by first | with_reducible rfl | with_reducible assumption | omega) (Int.le_refl _) (by first | with_reducible rfl | with_reducible assumption | omega))) (fun h => absurd rfl h) (by first | with_reducible rfl | with_reducible assumption | omega) (by first | with_reducible rfl | with_reducible assumption | omega) (by first | with_reducible rfl | with_reducible assumption | omega) (by first | with_reducible rfl | with_reducible assumption | omega)) (by first | with_reducible rfl | with_reducible assumption | omega) (by first | with_reducible rfl | with_reducible assumption | omega) (by first | with_reducible rfl | with_reducible assumption | omega) (by first | with_reducible rfl | with_reducible assumption | omega))), (show FsI (tf 6).toInt (pf184 13).toInt na185 from (FsI.le hfs (by first | with_reducible rfl | with_reducible assumption | omega)))⟩) d_Mpg_conditioned_79
abbrev b_Mpg_doing : ByteArray := prog_16_method_54_code
def y_Mpg_doing : MethodName := ⟨"HomeSystemModel$Program", "doing", "()I"⟩
theorem d_Mpg_doing_0 : decode b_Mpg_doing 0 = .ok (.aload_n 0, 1) := by decide +kernel
theorem d_Mpg_doing_1 : decode b_Mpg_doing 1 = .ok (.bipush 26, 2) := by decide +kernel
theorem d_Mpg_doing_3 : decode b_Mpg_doing 3 = .ok (.aload_n 0, 1) := by decide +kernel
theorem d_Mpg_doing_4 : decode b_Mpg_doing 4 = .ok (.getfield 360, 3) := by decide +kernel
theorem d_Mpg_doing_7 : decode b_Mpg_doing 7 = .ok (.invokevirtual 406, 3) := by decide +kernel
theorem d_Mpg_doing_10 : decode b_Mpg_doing 10 = .ok (.istore_n 1, 1) := by decide +kernel
theorem d_Mpg_doing_11 : decode b_Mpg_doing 11 = .ok (.aload_n 0, 1) := by decide +kernel
theorem d_Mpg_doing_12 : decode b_Mpg_doing 12 = .ok (.invokevirtual 383, 3) := by decide +kernel
theorem d_Mpg_doing_15 : decode b_Mpg_doing 15 = .ok (.aload_n 0, 1) := by decide +kernel
theorem d_Mpg_doing_16 : decode b_Mpg_doing 16 = .ok (.getfield 219, 3) := by decide +kernel
theorem d_Mpg_doing_19 : decode b_Mpg_doing 19 = .ok (.iload_n 1, 1) := by decide +kernel
theorem d_Mpg_doing_20 : decode b_Mpg_doing 20 = .ok (.aload_n 0, 1) := by decide +kernel
theorem d_Mpg_doing_21 : decode b_Mpg_doing 21 = .ok (.invokevirtual 463, 3) := by decide +kernel
theorem d_Mpg_doing_24 : decode b_Mpg_doing 24 = .ok (.iastore, 1) := by decide +kernel
theorem d_Mpg_doing_25 : decode b_Mpg_doing 25 = .ok (.aload_n 0, 1) := by decide +kernel
theorem d_Mpg_doing_26 : decode b_Mpg_doing 26 = .ok (.aload_n 0, 1) := by decide +kernel
theorem d_Mpg_doing_27 : decode b_Mpg_doing 27 = .ok (.bipush 6, 2) := by decide +kernel
theorem d_Mpg_doing_29 : decode b_Mpg_doing 29 = .ok (.invokevirtual 497, 3) := by decide +kernel
theorem d_Mpg_doing_32 : decode b_Mpg_doing 32 = .ok (.invokevirtual 373, 3) := by decide +kernel
theorem d_Mpg_doing_35 : decode b_Mpg_doing 35 = .ok (.aload_n 0, 1) := by decide +kernel
theorem d_Mpg_doing_36 : decode b_Mpg_doing 36 = .ok (.getfield 216, 3) := by decide +kernel
theorem d_Mpg_doing_39 : decode b_Mpg_doing 39 = .ok (.iload_n 1, 1) := by decide +kernel
theorem d_Mpg_doing_40 : decode b_Mpg_doing 40 = .ok (.aload_n 0, 1) := by decide +kernel
theorem d_Mpg_doing_41 : decode b_Mpg_doing 41 = .ok (.invokevirtual 494, 3) := by decide +kernel
theorem d_Mpg_doing_44 : decode b_Mpg_doing 44 = .ok (.iastore, 1) := by decide +kernel
theorem d_Mpg_doing_45 : decode b_Mpg_doing 45 = .ok (.aload_n 0, 1) := by decide +kernel
theorem d_Mpg_doing_46 : decode b_Mpg_doing 46 = .ok (.ldc 101, 2) := by decide +kernel
theorem d_Mpg_doing_48 : decode b_Mpg_doing 48 = .ok (.invokevirtual 386, 3) := by decide +kernel
theorem d_Mpg_doing_51 : decode b_Mpg_doing 51 = .ok (.aload_n 0, 1) := by decide +kernel
theorem d_Mpg_doing_52 : decode b_Mpg_doing 52 = .ok (.dup, 1) := by decide +kernel
theorem d_Mpg_doing_53 : decode b_Mpg_doing 53 = .ok (.getfield 380, 3) := by decide +kernel
theorem d_Mpg_doing_56 : decode b_Mpg_doing 56 = .ok (.iconst 1, 1) := by decide +kernel
theorem d_Mpg_doing_57 : decode b_Mpg_doing 57 = .ok (.isub, 1) := by decide +kernel
theorem d_Mpg_doing_58 : decode b_Mpg_doing 58 = .ok (.putfield 380, 3) := by decide +kernel
theorem d_Mpg_doing_61 : decode b_Mpg_doing 61 = .ok (.iload_n 1, 1) := by decide +kernel
theorem d_Mpg_doing_62 : decode b_Mpg_doing 62 = .ok (.ireturn, 1) := by decide +kernel
theorem q_Mpg_doing : px_y y_Mpg_doing 0 := by unfold px_y; decide +kernel
set_option maxHeartbeats 4000000 in
set_option maxRecDepth 100000 in
theorem c_mp_doing (l : Launch) (D : va_G) (cs : Nat → ClassId) (h : Nat) (r : Nat → Nat) (g : Nat → Nat → Option Nat) (tf : Nat → Int32) (ta : Nat → Nat → Int32) (cf : Nat → Int32) (ca : Nat → Nat → Int32) (ef : Nat → Int32) (ea : Nat → Nat → Int32) (xf : Nat → Int32) (xa : Nat → Nat → Int32) (pf : Nat → Int32) (na : Nat → Nat → Int32) (ma : Nat → Nat → Int32) (wa : Nat → Nat → Int32) (lv : Nat) (g0 : 0 ≤ (pf 11).toInt) (g1 : (pf 11).toInt < (tf 6).toInt) (g2 : (tf 6).toInt ≤ 2049) (g3 : 0 ≤ (pf 12).toInt) (g4 : (pf 12).toInt ≤ 60) (g5 : 0 ≤ (pf 13).toInt) (g6 : (pf 13).toInt ≤ (pf 11).toInt + 10) (g7 : 0 ≤ (pf 26).toInt) (g8 : (pf 26).toInt ≤ (pf 12).toInt) (g9 : 61 ≤ (pf 12).toInt + (lv : Int)) (g10 : lv ≤ 61) (g11 : (pf 11).toInt + 1 < (tf 6).toInt) (hlf : l.flags = pinnedFlags ++ [noTraceFlag]) (htk : TkI tf ta) (hfs : FsI (tf 6).toInt (pf 13).toInt na) (hLT : LvT l D cs lv) : ThI l y_Mpg_doing b_Mpg_doing 2 (.int) D cs (8 * lv + 26) (220 * lv + 1200) [.ref h] [wdP cs h r g tf ta pf na ma wa cf ca ef ea xf xa] (oX (fun A U H => (oN A U H) ∧ (oP A g U H)) [wdP cs h r g tf ta pf na ma wa cf ca ef ea xf xa]) "java/lang/IllegalArgumentException" (fun v ps => ∃ (pf' : Nat → Int32) (na' : Nat → Nat → Int32) (ma' : Nat → Nat → Int32) (wa' : Nat → Nat → Int32), (ps = [wdP cs h r g tf ta pf' na' ma' wa' cf ca ef ea xf xa]) ∧ ((pf 11).toInt + 1 ≤ (pf' 11).toInt) ∧ ((pf' 11).toInt < (tf 6).toInt) ∧ ((pf 13).toInt + 1 ≤ (pf' 13).toInt) ∧ ((pf' 13).toInt - (pf 13).toInt ≤ (pf' 11).toInt - (pf 11).toInt) ∧ (bp ta (pf 11) + 1 ≤ bp ta (pf' 11)) ∧ ((pf' 12).toInt = (pf 12).toInt) ∧ ((pf' 24).toInt = (pf 24).toInt) ∧ ((pf' 25).toInt = (pf 25).toInt) ∧ ((pf' 26).toInt = (pf 26).toInt) ∧ (FrB (pf 13).toInt na ma na' ma') ∧ (FrW (pf 26).toInt wa wa') ∧ (VlS ta (tf 6).toInt na' ma' v (pf 13).toInt (pf' 13).toInt (3 * (bp ta (pf' 11) - bp ta (pf 11))) (200 - (pf 12).toInt)) ∧ (FsI (tf 6).toInt (pf' 13).toInt na')) (fun ps => ∃ (pf' : Nat → Int32) (na' : Nat → Nat → Int32) (ma' : Nat → Nat → Int32) (wa' : Nat → Nat → Int32), ps = [wdP cs h r g tf ta pf' na' ma' wa' cf ca ef ea xf xa] ∧ 0 ≤ (pf' 11).toInt ∧ (pf' 11).toInt + 1 ≤ (tf 6).toInt) := by
  refine th_enter (by decide) (Nat.le_of_ble_eq_true rfl) ?_
  intro p e s m below meth c A ls hAe S hr hlk hnm hA hT hX hw hl hne hadm
  have hl : lv_has ls 2 [(0, .ref h)] := hl
  have cst1 : (1 : Int32).toInt = 1 := rfl
  have cst6 : (6 : Int32).toInt = 6 := rfl
  have cst26 : (26 : Int32).toInt = 26 := rfl
  have hX : (fun A U H => (oN A U H) ∧ (oP A g U H)) A s s.heap := by rw [hAe]; exact hX
  obtain ⟨hN, hP⟩ := hX
  have hZ := hP.1
  have hF0 := hP.2.1
  have hfb : FrB (pf 13).toInt na ma na ma := FrB.rf
  have hfw : FrW (pf 26).toInt wa wa := FrW.rf
  refine lv_aload_n S.x S.b d_Mpg_doing_0 rfl (lv_at hl 0 rfl) ?_
  refine lv_bipush (v := 26) S.x S.b d_Mpg_doing_1 (by decide) ?_
  refine lv_aload_n S.x S.b d_Mpg_doing_3 rfl (lv_at hl 0 rfl) ?_
  refine px_get S k_Mpg hT hw 0 0 11 (v := .int (pf 11)) rfl rfl rfl (by decide) m9_235 d_Mpg_doing_4 ?_
  refine px_calli (pr := []) (px_runV (As := [.int 26, .int (pf 11)]) (rest := []) S (c_mp_make l D cs h r g tf ta wa cf ca ef ea xf xa pf na ma 26 (pf 11)  (show 0 ≤ (pf 13).toInt from by first | exact g5 | omega) (show (pf 13).toInt < 2100 from by first | exact oz_1fa6c9b1b7 g6 g11 g2 | omega) _) hT (pr := []) (pcs := [wdP cs h r g tf ta pf na ma wa cf ca ef ea xf xa]) hw px_X.tt (px_recv hT hw 0 0 rfl rfl rfl) m11_209 m11_206 m11_208 ms_8_12 m1_21 q_Mpg_make ⟨show 0 + 1 ≤ (8 * lv + 26) from by first | with_reducible rfl | with_reducible assumption | omega, show 8 + (3 + 11) + 0 ≤ (220 * lv + 1200) from by first | with_reducible rfl | with_reducible assumption | omega⟩ hl.1 rfl (Nat.le_of_ble_eq_true rfl) d_Mpg_doing_7 ⟨Nat.le_of_ble_eq_true rfl, Nat.le_of_ble_eq_true rfl⟩) hw hA (fun v8 p7 H locs hp7 hw => ?_)
  obtain ⟨pf4, na5, ma6, rfl, e9, e10, e11, e12, e13, e14, e15, e16⟩ := hp7
  have e9 : v8.toInt = (pf 13).toInt := e9
  have e10 : (pf4 13).toInt = (pf 13).toInt + 1 := e10
  have e11 : (pf4 11).toInt = (pf 11).toInt := e11
  have e12 : (pf4 12).toInt = (pf 12).toInt := e12
  have e13 : (pf4 24).toInt = (pf 24).toInt := e13
  have e14 : (pf4 25).toInt = (pf 25).toInt := e14
  have e15 : (pf4 26).toInt = (pf 26).toInt := e15
  have e16 : MkN na ma na5 ma6 v8 (26 : Int32) (pf 11) := e16
  obtain ⟨qb171, qb172, qb173, qb174⟩ := tk_eq (ta := ta) (x := (pf4 11)) (y := (pf 11)) (by first | with_reducible rfl | with_reducible assumption | omega)
  have hmk_v8 := e16
  have hfm_v8 := MkN.frb (b := v8.toInt) hmk_v8 (by first | with_reducible rfl | with_reducible assumption | omega) (by first | with_reducible rfl | with_reducible assumption | omega)
  have hfs := FsI.mk hfs hmk_v8 (by first | with_reducible rfl | with_reducible assumption | omega) (by first | with_reducible rfl | with_reducible assumption | omega) (by first | with_reducible rfl | with_reducible assumption | omega) (by first | with_reducible rfl | with_reducible assumption | omega)
  have hfb := hfb.tr hfm_v8 (by first | with_reducible rfl | with_reducible assumption | omega)
  have hf_14_v8 := hmk_v8.2.1 (by decide) (by decide)
  have hf_15_v8 := hmk_v8.2.2.1
  have hf_17_v8 := hmk_v8.2.2.2.2.1
  have hf_18_v8 := hmk_v8.2.2.2.2.2.1
  have hf_19_v8 := hmk_v8.2.2.2.2.2.2.1
  have hf_21_v8 := hmk_v8.2.2.2.2.2.2.2.2.1
  clear hmk_v8 hfm_v8
  have hw : pw D A s.heap H locs [wdP cs h r g tf ta pf4 na5 ma6 wa cf ca ef ea xf xa] := hw
  have lv8 := Int32.le_toInt v8
  have uv8 := Int32.toInt_lt v8
  refine lv_istore_n (lv' := [(1, .int v8), (0, .ref h)]) S.x S.b d_Mpg_doing_10 rfl hl (by decide) rfl (fun ls hl => ?_)
  refine lv_aload_n S.x S.b d_Mpg_doing_11 rfl (lv_at hl 1 rfl) ?_
  refine th_callv (ps0 := [wdP cs h r g tf ta pf na ma wa cf ca ef ea xf xa]) (pr := []) (pcs := [wdP cs h r g tf ta pf4 na5 ma6 wa cf ca ef ea xf xa]) (As := []) (rest := []) (c_mp_opens l D cs h r g tf ta na5 ma6 wa cf ca ef ea xf xa pf4   (show 0 ≤ (pf4 11).toInt from by first | exact oz_f3ebed1ad0 e11 g0 | omega) (show (pf4 11).toInt < (tf 6).toInt from by first | exact oz_0f9fb0345d g11 e11 | omega) (show (tf 6).toInt ≤ 2049 from by first | exact g2 | omega) (show (pf4 11).toInt + 1 < (tf 6).toInt from by first | exact oz_4b6b8b2f72 g11 e11 | omega) (show 0 ≤ (pf4 12).toInt from by first | exact oz_f3ebed1ad0 e12 g3 | omega) (show (pf4 12).toInt ≤ 60 from by first | exact oz_a3db38fa3c e12 g4 | omega) hlf htk) S hT hw (oX_call (P := (fun A U H => (oN A U H) ∧ (oP A g U H))) (pr := []) (oG_and oG_N oG_P) hw hA ⟨hN, hP⟩) (px_recv hT hw 0 0 rfl rfl rfl) m11_238 m11_235 m11_237 ms_9_1 m1_21 q_Mpg_opens ⟨show 7 + 1 ≤ (8 * lv + 26) from by first | with_reducible rfl | with_reducible assumption | omega, show 8 + (1 + 11) + 150 ≤ (220 * lv + 1200) from by first | with_reducible rfl | with_reducible assumption | omega⟩ hl.1 rfl (Nat.le_of_ble_eq_true rfl) d_Mpg_doing_12 ⟨Nat.le_of_ble_eq_true rfl, Nat.le_of_ble_eq_true rfl⟩ hne hlk hA hAe (fun o t h => Or.inr h) ?_ (fun p20 H locs hp20 hw => ?_)
  · exact fun p1 H1 locs1 hp hw => by obtain ⟨pq1, pq2, pq3, pq4, rfl, hq1, hq2⟩ := hp; exact ⟨_, ⟨pq1, pq2, pq3, pq4, rfl, hq1, hq2⟩, hw⟩
  obtain ⟨pf19, rfl, e22, e23, e24, e25, e26, e27, e28, e29, e30, e31⟩ := hp20
  have e22 : (pf19 11).toInt = (pf4 11).toInt + 1 := e22
  have e23 : (pf19 11).toInt < (tf 6).toInt := e23
  have e24 : bp ta (pf4 11) + sz ta (pf4 11) ≤ bp ta (pf19 11) := e24
  have e25 : 1 ≤ sz ta (pf4 11) := e25
  have e26 : (pf19 12).toInt = (pf4 12).toInt + 1 := e26
  have e27 : (pf4 12).toInt < 60 := e27
  have e28 : (pf19 13).toInt = (pf4 13).toInt := e28
  have e29 : (pf19 24).toInt = (pf4 24).toInt := e29
  have e30 : (pf19 25).toInt = (pf4 25).toInt := e30
  have e31 : (pf19 26).toInt = (pf4 26).toInt := e31
  have hw : pw D A s.heap H locs [wdP cs h r g tf ta pf19 na5 ma6 wa cf ca ef ea xf xa] := hw
  refine lv_aload_n S.x S.b d_Mpg_doing_15 rfl (lv_at hl 1 rfl) ?_
  refine px_get S k_Mpg hT hw 0 0 18 (v := .ref (r 18)) rfl rfl rfl (by decide) m10_3 d_Mpg_doing_16 ?_
  refine lv_iload_n S.x S.b d_Mpg_doing_19 rfl (lv_at hl 0 rfl) ?_
  refine lv_aload_n S.x S.b d_Mpg_doing_20 rfl (lv_at hl 1 rfl) ?_
  refine th_calli (ps0 := [wdP cs h r g tf ta pf na ma wa cf ca ef ea xf xa]) (pr := []) (pcs := [wdP cs h r g tf ta pf19 na5 ma6 wa cf ca ef ea xf xa]) (As := []) (rest := [.int v8, .ref (r 18)]) ((hLT.go (by first | with_reducible rfl | with_reducible assumption | omega)) h r g tf ta cf ca ef ea xf xa pf19 na5 ma6 wa   (show 0 ≤ (pf19 11).toInt from by first | exact oz_f3f97b7517 e22 e11 g0 | omega) (show (pf19 11).toInt < (tf 6).toInt from by first | exact e23 | omega) (show (tf 6).toInt ≤ 2049 from by first | exact g2 | omega) (show 0 ≤ (pf19 12).toInt from by first | exact oz_87be06313f e26 e12 g8 g7 | omega) (show (pf19 12).toInt ≤ 60 from by first | exact oz_6710fd9021 e26 e27 | omega) (show 0 ≤ (pf19 13).toInt from by first | exact oz_78ad3463af e28 e10 g5 | omega) (show (pf19 13).toInt ≤ (pf19 11).toInt + 10 from by first | exact oz_80eb9436a0 e22 e28 e10 e11 g6 | omega) (show 0 ≤ (pf19 26).toInt from by first | exact oz_e2fef14871 e31 e15 g7 | omega) (show (pf19 26).toInt ≤ (pf19 12).toInt from by first | exact oz_e919e29b70 e26 e31 e12 e15 g8 | omega) (show 61 ≤ (pf19 12).toInt + ((lv - 1 : Nat) : Int) from by first | with_reducible rfl | with_reducible assumption | omega) (show lv - 1 ≤ 61 from by first | with_reducible rfl | with_reducible assumption | omega) hlf htk (FsI.le (N' := (pf19 13).toInt) hfs (by first | with_reducible rfl | with_reducible assumption | omega))) S hT hw (oX_call (P := (fun A U H => (oN A U H) ∧ (oP A g U H))) (pr := []) (oG_and oG_N oG_P) hw hA ⟨hN, hP⟩) (px_recv hT hw 0 0 rfl rfl rfl) m12_101 m12_98 m12_100 ms_10_10 m1_21 q_Mpg_statement ⟨show (8 * (lv - 1) + 28) + 1 ≤ (8 * lv + 26) from by first | with_reducible rfl | with_reducible assumption | omega, show 8 + (2 + 11) + (220 * (lv - 1) + 1280) ≤ (220 * lv + 1200) from by first | with_reducible rfl | with_reducible assumption | omega⟩ hl.1 rfl (Nat.le_of_ble_eq_true rfl) d_Mpg_doing_21 ⟨Nat.le_of_ble_eq_true rfl, Nat.le_of_ble_eq_true rfl⟩ hne hlk hA hAe (fun o t h => Or.inr h) ?_ (fun v41 p40 H locs hp40 hw => ?_)
  · exact fun p1 H1 locs1 hp hw => by obtain ⟨pq1, pq2, pq3, pq4, rfl, hq1, hq2⟩ := hp; exact ⟨_, ⟨pq1, pq2, pq3, pq4, rfl, hq1, hq2⟩, hw⟩
  obtain ⟨pf36, na37, ma38, wa39, rfl, e42, e43, e44, e45, e46, e47, e48, e49, e50, e51, e52, e53, e54⟩ := hp40
  have e42 : (pf19 11).toInt + 1 ≤ (pf36 11).toInt := e42
  have e43 : (pf36 11).toInt < (tf 6).toInt := e43
  have e44 : (pf19 13).toInt + 1 ≤ (pf36 13).toInt := e44
  have e45 : (pf36 13).toInt - (pf19 13).toInt ≤ (pf36 11).toInt - (pf19 11).toInt := e45
  have e46 : bp ta (pf19 11) + 1 ≤ bp ta (pf36 11) := e46
  have e47 : (pf36 12).toInt = (pf19 12).toInt := e47
  have e48 : (pf36 24).toInt = (pf19 24).toInt := e48
  have e49 : (pf36 25).toInt = (pf19 25).toInt := e49
  have e50 : (pf36 26).toInt = (pf19 26).toInt := e50
  have e51 : FrB (pf19 13).toInt na5 ma6 na37 ma38 := e51
  have hf_14_v8 := (fb_n e51 (by first | with_reducible rfl | with_reducible assumption | omega) (by first | with_reducible rfl | with_reducible assumption | omega)).trans hf_14_v8
  have hf_15_v8 := (fb_n e51 (by first | with_reducible rfl | with_reducible assumption | omega) (by first | with_reducible rfl | with_reducible assumption | omega)).trans hf_15_v8
  have hf_17_v8 := (fb_n e51 (by first | with_reducible rfl | with_reducible assumption | omega) (by first | with_reducible rfl | with_reducible assumption | omega)).trans hf_17_v8
  have hf_18_v8 := (fb_m e51 (by first | with_reducible rfl | with_reducible assumption | omega) (by first | with_reducible rfl | with_reducible assumption | omega)).trans hf_18_v8
  have hf_19_v8 := (fb_m e51 (by first | with_reducible rfl | with_reducible assumption | omega) (by first | with_reducible rfl | with_reducible assumption | omega)).trans hf_19_v8
  have hf_21_v8 := (fb_n e51 (by first | with_reducible rfl | with_reducible assumption | omega) (by first | with_reducible rfl | with_reducible assumption | omega)).trans hf_21_v8
  have hfb := hfb.tr e51 (by first | with_reducible rfl | with_reducible assumption | omega)
  have e52 : FrW (pf19 26).toInt wa wa39 := e52
  have hfw := hfw.tr e52 (by first | with_reducible rfl | with_reducible assumption | omega)
  have e53 : VlS ta (tf 6).toInt na37 ma38 v41 (pf19 13).toInt (pf36 13).toInt (3 * (bp ta (pf36 11) - bp ta (pf19 11))) (200 - (pf19 12).toInt) := e53
  have hv_v41 := e53
  have hn_hv_v41 := hv_v41.num fs_ok
  have e54 : FsI (tf 6).toInt (pf36 13).toInt na37 := e54
  have hfs := e54
  have hw : pw D A s.heap H locs [wdP cs h r g tf ta pf36 na37 ma38 wa39 cf ca ef ea xf xa] := hw
  have lv41 := Int32.le_toInt v41
  have uv41 := Int32.toInt_lt v41
  refine px_iast S hT hw 0 14 (n := 2100) (f := (ma38 18)) (x := v8) (y := v41) rfl gp_18 (vp_in_iff.mpr (by constructor <;> omega)) d_Mpg_doing_24 (w' := wdP cs h r g tf ta pf36 na37 (va_up ma38 18 (upd (ma38 18) v8.toNatClampNeg v41)) wa39 cf ca ef ea xf xa) (ps' := [wdP cs h r g tf ta pf36 na37 (va_up ma38 18 (upd (ma38 18) v8.toNatClampNeg v41)) wa39 cf ca ef ea xf xa]) sp_18 rfl (fun H locs hw => ?_)
  obtain ⟨ma55, hu_ma55⟩ : ∃ y : Nat → Nat → Int32, y = va_up ma38 18 (upd (ma38 18) v8.toNatClampNeg v41) := ⟨_, rfl⟩
  have hw : pw D A s.heap _ _ [wdP cs h r g tf ta pf36 na37 ma55 wa39 cf ca ef ea xf xa] := (by rw [hu_ma55]; exact hw)
  have hv_v41 := hv_v41.ag fs_ok (ag_m hu_ma55 (by first | with_reducible rfl | with_reducible assumption | omega) (by first | with_reducible rfl | with_reducible assumption | omega))
  have hf_19_v8 := (fl_n hu_ma55 (by decide)).trans hf_19_v8
  have hf_18_v8 : ma55 18 v8.toNatClampNeg = v41 := (by rw [hu_ma55, va_up_s, pk_us])
  have hfb : FrB (pf 13).toInt na ma na37 ma55 := (by rw [hu_ma55]; exact FrB.um hfb (by first | with_reducible rfl | with_reducible assumption | omega) (by first | with_reducible rfl | with_reducible assumption | omega))
  refine lv_aload_n S.x S.b d_Mpg_doing_25 rfl (lv_at hl 1 rfl) ?_
  refine lv_aload_n S.x S.b d_Mpg_doing_26 rfl (lv_at hl 1 rfl) ?_
  refine lv_bipush (v := 6) S.x S.b d_Mpg_doing_27 (by decide) ?_
  refine px_calli (pr := []) (px_runV (As := [.int 6]) (rest := [.ref h]) S (c_mp_takesKey l D cs h r g tf ta na37 ma55 wa39 cf ca ef ea xf xa pf36 6  (show 0 ≤ (pf36 11).toInt from by first | exact oz_5d987d7f9e e42 e22 g0 e11 | omega) (show (pf36 11).toInt < (tf 6).toInt from by first | exact e43 | omega) (show (tf 6).toInt ≤ 2049 from by first | exact g2 | omega) htk _) hT (pr := []) (pcs := [wdP cs h r g tf ta pf36 na37 ma55 wa39 cf ca ef ea xf xa]) hw px_X.tt (px_recv hT hw 0 0 rfl rfl rfl) m12_133 m12_130 m12_132 ms_11_2 m1_21 q_Mpg_takesKey ⟨show 1 + 1 ≤ (8 * lv + 26) from by first | with_reducible rfl | with_reducible assumption | omega, show 8 + (3 + 11) + 40 ≤ (220 * lv + 1200) from by first | with_reducible rfl | with_reducible assumption | omega⟩ hl.1 rfl (Nat.le_of_ble_eq_true rfl) d_Mpg_doing_29 ⟨Nat.le_of_ble_eq_true rfl, Nat.le_of_ble_eq_true rfl⟩) hw hA (fun v59 p58 H locs hp58 hw => ?_)
  obtain ⟨pf57, rfl, e60, e61, e62, e63, e64, e65, e66, e67, e68⟩ := hp58
  have e60 := z_rng e60
  have e61 : (pf57 11).toInt = (pf36 11).toInt + v59.toInt := e61
  have e62 : (pf57 11).toInt < (tf 6).toInt := e62
  have e63 : bp ta (pf36 11) + v59.toInt ≤ bp ta (pf57 11) := e63
  have e64 : (pf57 12).toInt = (pf36 12).toInt := e64
  have e65 : (pf57 13).toInt = (pf36 13).toInt := e65
  have e66 : (pf57 24).toInt = (pf36 24).toInt := e66
  have e67 : (pf57 25).toInt = (pf36 25).toInt := e67
  have e68 : (pf57 26).toInt = (pf36 26).toInt := e68
  have hw : pw D A s.heap H locs [wdP cs h r g tf ta pf57 na37 ma55 wa39 cf ca ef ea xf xa] := hw
  have lv59 := Int32.le_toInt v59
  have uv59 := Int32.toInt_lt v59
  refine th_callv (ps0 := [wdP cs h r g tf ta pf na ma wa cf ca ef ea xf xa]) (pr := [wdP cs h r g tf ta pf57 na37 ma55 wa39 cf ca ef ea xf xa]) (pcs := []) (As := [.int v59]) (rest := []) (c_mp_need l hlf D cs h v59) S hT hw (oX_call (P := (fun A U H => (oN A U H))) (pr := [wdP cs h r g tf ta pf57 na37 ma55 wa39 cf ca ef ea xf xa]) oG_N hw hA hN) (px_recv hT hw 0 0 rfl rfl rfl) m11_233 m11_230 m11_232 ms_9_0 m1_21 q_Mpg_need ⟨show 6 + 1 ≤ (8 * lv + 26) from by first | with_reducible rfl | with_reducible assumption | omega, show 8 + (2 + 11) + 100 ≤ (220 * lv + 1200) from by first | with_reducible rfl | with_reducible assumption | omega⟩ hl.1 rfl (Nat.le_of_ble_eq_true rfl) d_Mpg_doing_32 ⟨Nat.le_of_ble_eq_true rfl, Nat.le_of_ble_eq_true rfl⟩ hne hlk hA hAe (fun o t h => Or.inr h) ?_ (fun p69 H locs hp69 hw => ?_)
  · exact fun p1 H1 locs1 hp hw => by subst hp; exact ⟨_, ⟨pf57, na37, ma55, wa39, rfl, by first | with_reducible rfl | with_reducible assumption | omega, by first | with_reducible rfl | with_reducible assumption | omega⟩, hw.sub [0] rfl rfl⟩
  obtain ⟨rfl, hndp69⟩ := hp69
  have hndp69 : ¬ v59.toInt = 0 := hndp69
  have hw : pw D A s.heap H locs [wdP cs h r g tf ta pf57 na37 ma55 wa39 cf ca ef ea xf xa] := hw
  refine lv_aload_n S.x S.b d_Mpg_doing_35 rfl (lv_at hl 1 rfl) ?_
  refine px_get S k_Mpg hT hw 0 0 17 (v := .ref (r 17)) rfl rfl rfl (by decide) m10_1 d_Mpg_doing_36 ?_
  refine lv_iload_n S.x S.b d_Mpg_doing_39 rfl (lv_at hl 0 rfl) ?_
  refine lv_aload_n S.x S.b d_Mpg_doing_40 rfl (lv_at hl 1 rfl) ?_
  refine th_calli (ps0 := [wdP cs h r g tf ta pf na ma wa cf ca ef ea xf xa]) (pr := []) (pcs := [wdP cs h r g tf ta pf57 na37 ma55 wa39 cf ca ef ea xf xa]) (As := []) (rest := [.int v8, .ref (r 17)]) (c_mp_inParentheses l D cs h r g tf ta cf ca ef ea xf xa pf57 na37 ma55 wa39  lv (show 0 ≤ (pf57 11).toInt from by first | exact oz_973b2ce965 e61 e42 e60.1 g0 e11 e22 | omega) (show (pf57 11).toInt < (tf 6).toInt from by first | exact e62 | omega) (show (tf 6).toInt ≤ 2049 from by first | exact g2 | omega) (show 0 ≤ (pf57 12).toInt from by first | exact oz_cffcf29412 e64 e47 e26 e12 g8 g7 | omega) (show (pf57 12).toInt ≤ 60 from by first | exact oz_51eeb0c7ba e64 e47 e26 e27 | omega) (show 0 ≤ (pf57 13).toInt from by first | exact oz_cf8e4b951f e65 e44 e28 e10 g5 | omega) (show (pf57 13).toInt ≤ (pf57 11).toInt + 10 from by first | exact oz_a20ee91ac9 e61 e65 e45 e60.1 g6 e11 e22 e28 e10 | omega) (show 0 ≤ (pf57 26).toInt from by first | exact oz_00b9fbaef4 e68 e50 e31 e15 g7 | omega) (show (pf57 26).toInt ≤ (pf57 12).toInt from by first | exact oz_3357ca9d54 e64 e68 e47 e50 e26 e31 e12 e15 g8 | omega) (show 61 ≤ (pf57 12).toInt + (lv : Int) from by first | exact oz_9277c9ebe9 g9 e64 e12 e47 e26 | omega) (show lv ≤ 61 from by first | exact g10 | omega) hlf htk (FsI.le (N' := (pf57 13).toInt) hfs (by first | with_reducible rfl | with_reducible assumption | omega))) S hT hw (oX_call (P := (fun A U H => (oN A U H) ∧ (oP A g U H))) (pr := []) (oG_and oG_N oG_P) hw hA ⟨hN, hP⟩) (px_recv hT hw 0 0 rfl rfl rfl) m12_129 m12_126 m12_128 ms_11_1 m1_21 q_Mpg_inParentheses ⟨show (8 * lv + 22) + 1 ≤ (8 * lv + 26) from by first | with_reducible rfl | with_reducible assumption | omega, show 8 + (2 + 11) + (220 * lv + 1000) ≤ (220 * lv + 1200) from by first | with_reducible rfl | with_reducible assumption | omega⟩ hl.1 rfl (Nat.le_of_ble_eq_true rfl) d_Mpg_doing_41 ⟨Nat.le_of_ble_eq_true rfl, Nat.le_of_ble_eq_true rfl⟩ hne hlk hA hAe (fun o t h => Or.inr h) ?_ (fun v80 p79 H locs hp79 hw => ?_)
  · exact fun p1 H1 locs1 hp hw => by obtain ⟨pq1, pq2, pq3, pq4, rfl, hq1, hq2⟩ := hp; exact ⟨_, ⟨pq1, pq2, pq3, pq4, rfl, hq1, hq2⟩, hw⟩
  obtain ⟨pf75, na76, ma77, wa78, rfl, e81, e82, e83, e84, e85, e86, e87, e88, e89, e90, e91, e92, e93⟩ := hp79
  have e81 : (pf57 11).toInt + 1 ≤ (pf75 11).toInt := e81
  have e82 : (pf75 11).toInt < (tf 6).toInt := e82
  have e83 : (pf57 13).toInt + 1 ≤ (pf75 13).toInt := e83
  have e84 : (pf75 13).toInt - (pf57 13).toInt ≤ (pf75 11).toInt - (pf57 11).toInt := e84
  have e85 : bp ta (pf57 11) + 1 ≤ bp ta (pf75 11) := e85
  have e86 : (pf75 12).toInt = (pf57 12).toInt := e86
  have e87 : (pf75 24).toInt = (pf57 24).toInt := e87
  have e88 : (pf75 25).toInt = (pf57 25).toInt := e88
  have e89 : (pf75 26).toInt = (pf57 26).toInt := e89
  have e90 : FrB (pf57 13).toInt na37 ma55 na76 ma77 := e90
  have hf_14_v8 := (fb_n e90 (by first | with_reducible rfl | with_reducible assumption | omega) (by first | with_reducible rfl | with_reducible assumption | omega)).trans hf_14_v8
  have hf_15_v8 := (fb_n e90 (by first | with_reducible rfl | with_reducible assumption | omega) (by first | with_reducible rfl | with_reducible assumption | omega)).trans hf_15_v8
  have hf_17_v8 := (fb_n e90 (by first | with_reducible rfl | with_reducible assumption | omega) (by first | with_reducible rfl | with_reducible assumption | omega)).trans hf_17_v8
  have hf_18_v8 := (fb_m e90 (by first | with_reducible rfl | with_reducible assumption | omega) (by first | with_reducible rfl | with_reducible assumption | omega)).trans hf_18_v8
  have hf_19_v8 := (fb_m e90 (by first | with_reducible rfl | with_reducible assumption | omega) (by first | with_reducible rfl | with_reducible assumption | omega)).trans hf_19_v8
  have hf_21_v8 := (fb_n e90 (by first | with_reducible rfl | with_reducible assumption | omega) (by first | with_reducible rfl | with_reducible assumption | omega)).trans hf_21_v8
  have hv_v41 := hv_v41.ag fs_ok (FrB.ag e90 (by first | with_reducible rfl | with_reducible assumption | omega))
  have hfb := hfb.tr e90 (by first | with_reducible rfl | with_reducible assumption | omega)
  have e91 : FrW (pf57 26).toInt wa39 wa78 := e91
  have hfw := hfw.tr e91 (by first | with_reducible rfl | with_reducible assumption | omega)
  have e92 : ExR ta (tf 6).toInt na76 ma77 v80 (pf57 13).toInt (pf75 13).toInt (3 * (bp ta (pf75 11) - bp ta (pf57 11)) - 6) (pf57 12).toInt := e92
  have ht_v80 := e92
  have hn_ht_v80 := ht_v80.num
  have e93 : FsI (tf 6).toInt (pf75 13).toInt na76 := e93
  have hfs := e93
  have hw : pw D A s.heap H locs [wdP cs h r g tf ta pf75 na76 ma77 wa78 cf ca ef ea xf xa] := hw
  have lv80 := Int32.le_toInt v80
  have uv80 := Int32.toInt_lt v80
  refine px_iast S hT hw 0 13 (n := 2100) (f := (na76 17)) (x := v8) (y := v80) rfl gp_17 (vp_in_iff.mpr (by constructor <;> omega)) d_Mpg_doing_44 (w' := wdP cs h r g tf ta pf75 (va_up na76 17 (upd (na76 17) v8.toNatClampNeg v80)) ma77 wa78 cf ca ef ea xf xa) (ps' := [wdP cs h r g tf ta pf75 (va_up na76 17 (upd (na76 17) v8.toNatClampNeg v80)) ma77 wa78 cf ca ef ea xf xa]) sp_17 rfl (fun H locs hw => ?_)
  obtain ⟨na94, hu_na94⟩ : ∃ y : Nat → Nat → Int32, y = va_up na76 17 (upd (na76 17) v8.toNatClampNeg v80) := ⟨_, rfl⟩
  have hw : pw D A s.heap _ _ [wdP cs h r g tf ta pf75 na94 ma77 wa78 cf ca ef ea xf xa] := (by rw [hu_na94]; exact hw)
  obtain ⟨ht_v80, hdq_v80⟩ := ht_v80.ag (ag_n hu_na94 (by first | with_reducible rfl | with_reducible assumption | omega) (by first | with_reducible rfl | with_reducible assumption | omega)) (by first | with_reducible rfl | with_reducible assumption | omega)
  have hn_ht_v80 := ht_v80.num
  have hv_v41 := hv_v41.ag fs_ok (ag_n hu_na94 (by first | with_reducible rfl | with_reducible assumption | omega) (by first | with_reducible rfl | with_reducible assumption | omega))
  have hf_14_v8 := (fl_n hu_na94 (by decide)).trans hf_14_v8
  have hf_15_v8 := (fl_n hu_na94 (by decide)).trans hf_15_v8
  have hf_21_v8 := (fl_n hu_na94 (by decide)).trans hf_21_v8
  have hf_17_v8 : na94 17 v8.toNatClampNeg = v80 := (by rw [hu_na94, va_up_s, pk_us])
  have hfs : FsI _ _ na94 := (by rw [hu_na94]; exact FsI.un hfs (by decide))
  have hfb : FrB (pf 13).toInt na ma na94 ma77 := (by rw [hu_na94]; exact FrB.un hfb (by first | with_reducible rfl | with_reducible assumption | omega) (by first | with_reducible rfl | with_reducible assumption | omega))
  refine lv_aload_n S.x S.b d_Mpg_doing_45 rfl (lv_at hl 1 rfl) ?_
  obtain ⟨sk95, hRsk95, st96, sb97, hSsk95⟩ := oP_lit hP (k := 101) (tx := ";") (n := 1) (List.mem_of_getElem? (i := 42) rfl)
  refine va_ldcS S.x S.b S.own hRsk95 d_Mpg_doing_46 ?_
  refine th_callv (ps0 := [wdP cs h r g tf ta pf na ma wa cf ca ef ea xf xa]) (pr := []) (pcs := [wdP cs h r g tf ta pf75 na94 ma77 wa78 cf ca ef ea xf xa]) (As := [.ref sk95]) (rest := []) (c_mp_take l D cs sk95 1 h r g tf ta na94 ma77 wa78 cf ca ef ea xf xa pf75   (show 0 ≤ (pf75 11).toInt from by first | exact oz_8c9e4e7a6d e81 e61 g0 e11 e22 e42 e60.1 | omega) (show (pf75 11).toInt < (tf 6).toInt from by first | exact e82 | omega) (show (tf 6).toInt ≤ 2049 from by first | exact g2 | omega) (show 1 ≤ 100 from by first | decide | omega) hlf htk) S hT hw (oX_call (P := (fun A U H => (oN A U H) ∧ (oP A g U H) ∧ (StS A sk95 1 U H))) (pr := []) (oG_and oG_N (oG_and oG_P oG_Q)) hw hA ⟨hN, hP, ⟨_, _, hSsk95⟩⟩) (px_recv hT hw 0 0 rfl rfl rfl) m12_57 m12_54 m12_56 ms_9_15 m1_21 q_Mpg_take ⟨show 7 + 1 ≤ (8 * lv + 26) from by first | with_reducible rfl | with_reducible assumption | omega, show 8 + (2 + 11) + 230 ≤ (220 * lv + 1200) from by first | with_reducible rfl | with_reducible assumption | omega⟩ hl.1 rfl (Nat.le_of_ble_eq_true rfl) d_Mpg_doing_48 ⟨Nat.le_of_ble_eq_true rfl, Nat.le_of_ble_eq_true rfl⟩ hne hlk hA hAe (fun o t h => Or.inr h) ?_ (fun p100 H locs hp100 hw => ?_)
  · exact fun p1 H1 locs1 hp hw => by obtain ⟨pq1, pq2, pq3, pq4, rfl, hq1, hq2⟩ := hp; exact ⟨_, ⟨pq1, pq2, pq3, pq4, rfl, hq1, hq2⟩, hw⟩
  obtain ⟨pf99, rfl, e102, e103, e104, e105, e106, e107, e108, e109⟩ := hp100
  have e102 : (pf99 11).toInt = (pf75 11).toInt + 1 := e102
  have e103 : (pf99 11).toInt < (tf 6).toInt := e103
  have e104 : bp ta (pf75 11) + 1 ≤ bp ta (pf99 11) := e104
  have e105 : (pf99 12).toInt = (pf75 12).toInt := e105
  have e106 : (pf99 13).toInt = (pf75 13).toInt := e106
  have e107 : (pf99 24).toInt = (pf75 24).toInt := e107
  have e108 : (pf99 25).toInt = (pf75 25).toInt := e108
  have e109 : (pf99 26).toInt = (pf75 26).toInt := e109
  have hw : pw D A s.heap H locs [wdP cs h r g tf ta pf99 na94 ma77 wa78 cf ca ef ea xf xa] := hw
  refine lv_aload_n S.x S.b d_Mpg_doing_51 rfl (lv_at hl 1 rfl) ?_
  refine lv_dup S.x S.b d_Mpg_doing_52 rfl ?_
  refine px_get S k_Mpg hT hw 0 0 12 (v := .int (pf99 12)) rfl rfl rfl (by decide) m9_236 d_Mpg_doing_53 ?_
  refine lv_iconst (v := 1) S.x S.b d_Mpg_doing_56 (by decide) ?_
  refine lv_isub S.x S.b d_Mpg_doing_57 ?_
  have lr110 := Int32.le_toInt (pf99 12)
  have ur110 := Int32.toInt_lt (pf99 12)
  refine lv_topi (fun z111 ez111 => ?_)
  have tz111 : z111.toInt = ((pf99 12).toInt - (1 : Int) + 2147483648) % 4294967296 - 2147483648 := by rw [ez111]; exact i_sub (pf99 12) 1
  have lz111 := Int32.le_toInt z111
  have uz111 := Int32.toInt_lt z111
  try replace tz111 : z111.toInt = (pf99 12).toInt - (1 : Int) := by omega
  refine px_put S k_Mpg hT hw 0 0 12 rfl rfl (by decide) m9_236 rfl rfl rfl (Nat.le_of_ble_eq_true rfl) d_Mpg_doing_58 (w' := wdP cs h r g tf ta (upd pf99 12 z111) na94 ma77 wa78 cf ca ef ea xf xa) (ps' := [wdP cs h r g tf ta (upd pf99 12 z111) na94 ma77 wa78 cf ca ef ea xf xa]) rfl rfl (fun H locs hw => ?_)
  refine lv_iload_n S.x S.b d_Mpg_doing_61 rfl (lv_at hl 0 rfl) ?_
  exact th_iret (v := v8) S hr rfl hlk hAe hw (⟨(upd pf99 12 z111), na94, ma77, wa78, rfl, (show (pf 11).toInt + 1 ≤ (pf99 11).toInt from by first | exact oz_aad75de018 e11 e102 e22 e81 e42 e61 e60.1 | omega), (show (pf99 11).toInt < (tf 6).toInt from by first | exact e103 | omega), (show (pf 13).toInt + 1 ≤ (pf99 13).toInt from by first | exact oz_0f2b28d9b8 e10 e106 e28 e83 e44 e65 | omega), (show (pf99 13).toInt - (pf 13).toInt ≤ (pf99 11).toInt - (pf 11).toInt from by first | exact oz_87fffc65d6 e10 e11 e102 e106 e22 e28 e84 e45 e61 e65 e60.1 | omega), (show bp ta (pf 11) + 1 ≤ bp ta (pf99 11) from by first | exact oz_a8afd67e66 qb171 e104 e24 e85 e25 e46 e63 e60.1 | omega), (show z111.toInt = (pf 12).toInt from by first | exact oz_f3d5d0e710 e12 tz111 e26 e105 e47 e86 e64 | omega), (show (pf99 24).toInt = (pf 24).toInt from by first | exact oz_a783471c71 e13 e107 e29 e87 e48 e66 | omega), (show (pf99 25).toInt = (pf 25).toInt from by first | exact oz_a783471c71 e14 e108 e30 e88 e49 e67 | omega), (show (pf99 26).toInt = (pf 26).toInt from by first | exact oz_a783471c71 e15 e109 e31 e89 e50 e68 | omega), (show FrB (pf 13).toInt na ma na94 ma77 from hfb), (show FrW (pf 26).toInt wa wa78 from hfw), (show VlS ta (tf 6).toInt na94 ma77 v8 (pf 13).toInt (pf99 13).toInt (3 * (bp ta (pf99 11) - bp ta (pf 11))) (200 - (pf 12).toInt) from (VlV.le (st_do (hi := (pf99 13).toInt) (D := (199 - (pf 12).toInt)) ⟨by first | with_reducible rfl | with_reducible assumption | omega, hf_14_v8, hf_15_v8, ⟨by first | with_reducible rfl | with_reducible assumption | omega, by first | with_reducible rfl | with_reducible assumption | omega⟩, hf_21_v8⟩ hf_17_v8 hf_18_v8 hf_19_v8 (by first | with_reducible rfl | with_reducible assumption | omega) (VlV.le hv_v41 (Int.le_refl _) (Int.le_refl _) (Int.le_refl _) (by first | with_reducible rfl | with_reducible assumption | omega)) (VlV.le (exr_vl ht_v80 (by first | with_reducible rfl | with_reducible assumption | omega)) (Int.le_refl _) (by first | with_reducible rfl | with_reducible assumption | omega) (Int.le_refl _) (by first | with_reducible rfl | with_reducible assumption | omega)) (by first | with_reducible rfl | with_reducible assumption | omega) (by first | with_reducible rfl | with_reducible assumption | omega)) (by first | with_reducible rfl | with_reducible assumption | omega) (by first | with_reducible rfl | with_reducible assumption | omega) (by first | with_reducible rfl | with_reducible assumption | omega) (by first | with_reducible rfl | with_reducible assumption | omega))), (show FsI (tf 6).toInt (pf99 13).toInt na94 from (FsI.le hfs (by first | with_reducible rfl | with_reducible assumption | omega)))⟩) d_Mpg_doing_62
