theorem oz_3fe2768530 {n0 : Nat}  : 0 + 1 ≤ (8 * n0 + 26) := by omega
theorem oz_877b3efa3f {n0 : Nat}  : 8 + (3 + 11) + 0 ≤ (220 * n0 + 1200) := by omega
theorem oz_8b673174a9 {n0 : Nat}  : 7 + 1 ≤ (8 * n0 + 26) := by omega
theorem oz_8d5674cc2c {n0 : Nat}  : 8 + (1 + 11) + 150 ≤ (220 * n0 + 1200) := by omega
theorem oz_80eb9436a0 {a0 a1 a2 a3 a4 a5 : Int} (h0 : a1 = a2 + 1) (h1 : a0 = a3) (h2 : a3 = a4 + 1) (h3 : a2 = a5) (h4 : a4 ≤ a5 + 10) : a0 ≤ a1 + 10 := by omega
theorem oz_927a742cd4 {a0 a2 a3 : Int} {n1 : Nat} (h0 : 61 ≤ a2 + (n1 : Int)) (h1 : a0 = a3 + 1) (h2 : a3 = a2) : 61 ≤ a0 + (n1 : Int) := by omega
theorem oz_2e917a000d {n0 : Nat}  : (8 * n0 + 22) + 1 ≤ (8 * n0 + 26) := by omega
theorem oz_552b89e250 {n0 : Nat}  : 8 + (2 + 11) + (220 * n0 + 1000) ≤ (220 * n0 + 1200) := by omega
theorem oz_5d987d7f9e {a0 a1 a2 a3 : Int} (h0 : a1 + 1 ≤ a0) (h1 : a1 = a2 + 1) (h2 : 0 ≤ a3) (h3 : a2 = a3) : 0 ≤ a0 := by omega
theorem oz_3ff206910e {a0 a1 a2 a3 : Int} (h0 : a1 + 1 ≤ a0) (h1 : a1 = a2) (h2 : a2 = a3 + 1) (h3 : 0 ≤ a3) : 0 ≤ a0 := by omega
theorem oz_71bf65dd77 {a0 a1 a2 a3 a4 a5 a6 a7 : Int} (h0 : a0 - a2 ≤ a1 - a3) (h1 : a3 = a4 + 1) (h2 : a2 = a5) (h3 : a6 ≤ a7 + 10) (h4 : a5 = a6 + 1) (h5 : a4 = a7) : a0 ≤ a1 + 10 := by omega
theorem oz_2e44d917d0 {a0 a1 a2 a3 a4 a5 a6 a7 : Int} (h0 : a1 = a2) (h1 : a0 = a3) (h2 : a2 = a4 + 1) (h3 : a3 = a5) (h4 : a4 = a6) (h5 : a5 = a7) (h6 : a7 ≤ a6) : a0 ≤ a1 := by omega
theorem oz_fab1129875 {a0 a1 a2 a3 a4 : Int} (h0 : a2 = a0) (h1 : a3 + 1 ≤ a1) (h2 : a4 = a2 + 1) (h3 : a4 + 1 ≤ a3) : a0 + 1 ≤ a1 := by omega
theorem oz_155f230f77 {a0 a1 a2 a3 a4 : Int} (h0 : a2 = a0 + 1) (h1 : a3 + 1 ≤ a1) (h2 : a4 = a2) (h3 : a4 + 1 ≤ a3) : a0 + 1 ≤ a1 := by omega
theorem oz_cc65ad6daa {a0 a1 a2 a3 a4 a5 a6 a7 a8 a9 : Int} (h0 : a4 = a1 + 1) (h1 : a5 = a3) (h2 : a0 - a6 ≤ a2 - a7) (h3 : a8 = a5 + 1) (h4 : a9 = a4) (h5 : a6 - a9 ≤ a7 - a8) : a0 - a1 ≤ a2 - a3 := by omega
theorem oz_e4189b3632 {a0 a1 a2 a3 a4 a5 : Int} (h0 : a2 = a1) (h1 : a0 = a3 - (1 : Int)) (h2 : a4 = a2 + 1) (h3 : a3 = a5) (h4 : a5 = a4) : a0 = a1 := by omega
theorem oz_abaa8eb164 {a0 a1 a2 a3 a4 : Int} (h0 : a1 + 1 ≤ a0) (h1 : a2 + 1 ≤ a1) (h2 : 0 ≤ a3) (h3 : a4 = a3) (h4 : a2 = a4 + 1) : 0 ≤ a0 := by omega
theorem oz_10629d6254 {n0 : Nat}  : 1 + 1 ≤ (8 * n0 + 26) := by omega
theorem oz_ceb0a10683 {n0 : Nat}  : 8 + (3 + 11) + 40 ≤ (220 * n0 + 1200) := by omega
theorem oz_5f17c95f56 {a0 a1 a2 a3 a4 a5 a6 : Int} (h0 : a2 = a0) (h1 : a1 = a3 + a4) (h2 : a5 = a2 + 1) (h3 : a6 + 1 ≤ a3) (h4 : 0 ≤ a4) (h5 : a5 + 1 ≤ a6) : a0 + 1 ≤ a1 := by omega
theorem oz_e86c8ea46a {a0 a1 a2 a3 a4 a5 : Int} (h0 : a2 = a0 + 1) (h1 : a1 = a3) (h2 : a4 = a2) (h3 : a5 + 1 ≤ a3) (h4 : a4 + 1 ≤ a5) : a0 + 1 ≤ a1 := by omega
theorem oz_c9dc3cd592 {a0 a1 a2 a3 a4 a5 a6 a7 a8 a9 a10 a11 a12 : Int} (h0 : a4 = a1 + 1) (h1 : a5 = a3) (h2 : a2 = a6 + a7) (h3 : a0 = a8) (h4 : a9 = a5 + 1) (h5 : a10 = a4) (h6 : a8 - a11 ≤ a6 - a12) (h7 : 0 ≤ a7) (h8 : a11 - a10 ≤ a12 - a9) : a0 - a1 ≤ a2 - a3 := by omega
theorem oz_f329b8fe74 {a0 a1 a2 a3 a4 a5 a6 a7 : Int} (h0 : a2 = a0) (h1 : a3 + a4 ≤ a1) (h2 : a2 + a5 ≤ a6) (h3 : a7 + 1 ≤ a3) (h4 : 0 ≤ a4) (h5 : 1 ≤ a5) (h6 : a6 + 1 ≤ a7) : a0 + 1 ≤ a1 := by omega
theorem oz_9150f5354a {a0 a1 a2 a3 a4 a5 a6 : Int} (h0 : a2 = a1) (h1 : a0 = a3 - (1 : Int)) (h2 : a4 = a2 + 1) (h3 : a3 = a5) (h4 : a6 = a4) (h5 : a5 = a6) : a0 = a1 := by omega
theorem oz_719dfece60 {a0 a1 a2 a3 a4 a5 a6 : Int} (h0 : a0 = a1 + a2) (h1 : a3 + 1 ≤ a1) (h2 : 0 ≤ a2) (h3 : 0 ≤ a4) (h4 : a5 = a4) (h5 : a6 = a5 + 1) (h6 : a6 + 1 ≤ a3) : 0 ≤ a0 := by omega
theorem oz_1a41beca24 {a0 a1 a2 a3 a4 a5 a6 : Int} (h0 : a0 = a1) (h1 : a1 = a2) (h2 : a2 = a3) (h3 : a3 = a4 + 1) (h4 : a4 = a5) (h5 : a6 ≤ a5) (h6 : 0 ≤ a6) : 0 ≤ a0 := by omega
theorem oz_7382568b78 {a0 a1 a2 a3 a4 : Int} (h0 : a0 = a1) (h1 : a1 = a2) (h2 : a2 = a3) (h3 : a3 = a4 + 1) (h4 : a4 < 60) : a0 ≤ 60 := by omega
theorem oz_571e5ef8c2 {a0 a1 a2 a3 a4 a5 : Int} (h0 : a0 = a1) (h1 : a2 + 1 ≤ a1) (h2 : a3 + 1 ≤ a2) (h3 : a3 = a4) (h4 : a4 = a5 + 1) (h5 : 0 ≤ a5) : 0 ≤ a0 := by omega
theorem oz_6c72f0f831 {a0 a1 a2 a3 a4 a5 a6 a7 a8 a9 a10 a11 a12 : Int} (h0 : a1 = a2 + a3) (h1 : a0 = a4) (h2 : a4 - a5 ≤ a2 - a6) (h3 : 0 ≤ a3) (h4 : a7 ≤ a8 + 10) (h5 : a9 = a8) (h6 : a10 = a9 + 1) (h7 : a5 - a11 ≤ a6 - a10) (h8 : a12 = a7 + 1) (h9 : a11 = a12) : a0 ≤ a1 + 10 := by omega
theorem oz_6003ce2c41 {a0 a1 a2 a3 a4 a5 : Int} (h0 : a0 = a1) (h1 : a1 = a2) (h2 : a2 = a3) (h3 : a3 = a4) (h4 : a4 = a5) (h5 : 0 ≤ a5) : 0 ≤ a0 := by omega
theorem oz_492d0f64aa {a0 a1 a2 a3 a4 a5 a6 a7 a8 a9 a10 a11 : Int} (h0 : a1 = a2) (h1 : a0 = a3) (h2 : a2 = a4) (h3 : a3 = a5) (h4 : a4 = a6) (h5 : a5 = a7) (h6 : a6 = a8 + 1) (h7 : a7 = a9) (h8 : a8 = a10) (h9 : a9 = a11) (h10 : a11 ≤ a10) : a0 ≤ a1 := by omega
theorem oz_535e69da1d {a0 a1 a2 a3 a4 a5 a6 a7 : Int} (h0 : a2 = a0) (h1 : a3 + 1 ≤ a1) (h2 : a4 = a2 + 1) (h3 : a3 = a5 + a6) (h4 : a4 + 1 ≤ a7) (h5 : a7 + 1 ≤ a5) (h6 : 0 ≤ a6) : a0 + 1 ≤ a1 := by omega
theorem oz_e191051be6 {a0 a1 a2 a3 a4 a5 a6 : Int} (h0 : a2 = a0 + 1) (h1 : a3 + 1 ≤ a1) (h2 : a4 = a2) (h3 : a3 = a5) (h4 : a4 + 1 ≤ a6) (h5 : a6 + 1 ≤ a5) : a0 + 1 ≤ a1 := by omega
theorem oz_ab815a9d62 {a0 a1 a2 a3 a4 a5 a6 a7 a8 a9 a10 a11 a12 a13 a14 : Int} (h0 : a4 = a1 + 1) (h1 : a5 = a3) (h2 : a0 - a6 ≤ a2 - a7) (h3 : a8 = a5 + 1) (h4 : a9 = a4) (h5 : a7 = a10 + a11) (h6 : a6 = a12) (h7 : a13 - a9 ≤ a14 - a8) (h8 : a12 - a13 ≤ a10 - a14) (h9 : 0 ≤ a11) : a0 - a1 ≤ a2 - a3 := by omega
theorem oz_b1489df459 {a0 a1 a2 a3 a4 a5 a6 a7 a8 : Int} (h0 : a2 = a0) (h1 : a3 + 1 ≤ a1) (h2 : a2 + a4 ≤ a5) (h3 : a6 + a7 ≤ a3) (h4 : 1 ≤ a4) (h5 : a5 + 1 ≤ a8) (h6 : a8 + 1 ≤ a6) (h7 : 0 ≤ a7) : a0 + 1 ≤ a1 := by omega
theorem oz_f3d5d0e710 {a0 a1 a2 a3 a4 a5 a6 a7 : Int} (h0 : a2 = a1) (h1 : a0 = a3 - (1 : Int)) (h2 : a4 = a2 + 1) (h3 : a3 = a5) (h4 : a6 = a4) (h5 : a5 = a7) (h6 : a7 = a6) : a0 = a1 := by omega
theorem oz_c236c17a10 {n0 : Nat}  : 6 + 1 ≤ (8 * n0 + 26) := by omega
theorem oz_4b916428d7 {n0 : Nat}  : 8 + (2 + 11) + 100 ≤ (220 * n0 + 1200) := by omega
theorem oz_973b2ce965 {a0 a1 a2 a3 a4 a5 : Int} (h0 : a0 = a1 + a2) (h1 : a3 + 1 ≤ a1) (h2 : 0 ≤ a2) (h3 : 0 ≤ a4) (h4 : a5 = a4) (h5 : a3 = a5 + 1) : 0 ≤ a0 := by omega
theorem oz_cf8e4b951f {a0 a1 a2 a3 a4 : Int} (h0 : a0 = a1) (h1 : a2 + 1 ≤ a1) (h2 : a2 = a3) (h3 : a3 = a4 + 1) (h4 : 0 ≤ a4) : 0 ≤ a0 := by omega
theorem oz_a20ee91ac9 {a0 a1 a2 a3 a4 a5 a6 a7 a8 a9 a10 : Int} (h0 : a1 = a2 + a3) (h1 : a0 = a4) (h2 : a4 - a5 ≤ a2 - a6) (h3 : 0 ≤ a3) (h4 : a7 ≤ a8 + 10) (h5 : a9 = a8) (h6 : a6 = a9 + 1) (h7 : a5 = a10) (h8 : a10 = a7 + 1) : a0 ≤ a1 + 10 := by omega
theorem oz_9277c9ebe9 {a0 a2 a3 a4 a5 : Int} {n1 : Nat} (h0 : 61 ≤ a2 + (n1 : Int)) (h1 : a0 = a3) (h2 : a4 = a2) (h3 : a3 = a5) (h4 : a5 = a4 + 1) : 61 ≤ a0 + (n1 : Int) := by omega
theorem oz_8c9e4e7a6d {a0 a1 a2 a3 a4 a5 a6 : Int} (h0 : a1 + 1 ≤ a0) (h1 : a1 = a2 + a3) (h2 : 0 ≤ a4) (h3 : a5 = a4) (h4 : a6 = a5 + 1) (h5 : a6 + 1 ≤ a2) (h6 : 0 ≤ a3) : 0 ≤ a0 := by omega
theorem oz_200b99b4a8 {n0 : Nat}  : 8 + (2 + 11) + 230 ≤ (220 * n0 + 1200) := by omega
theorem oz_aad75de018 {a0 a1 a2 a3 a4 a5 a6 a7 : Int} (h0 : a2 = a0) (h1 : a1 = a3 + 1) (h2 : a4 = a2 + 1) (h3 : a5 + 1 ≤ a3) (h4 : a4 + 1 ≤ a6) (h5 : a5 = a6 + a7) (h6 : 0 ≤ a7) : a0 + 1 ≤ a1 := by omega
theorem oz_0f2b28d9b8 {a0 a1 a2 a3 a4 a5 a6 : Int} (h0 : a2 = a0 + 1) (h1 : a1 = a3) (h2 : a4 = a2) (h3 : a5 + 1 ≤ a3) (h4 : a4 + 1 ≤ a6) (h5 : a5 = a6) : a0 + 1 ≤ a1 := by omega
theorem oz_87fffc65d6 {a0 a1 a2 a3 a4 a5 a6 a7 a8 a9 a10 a11 a12 a13 a14 : Int} (h0 : a4 = a1 + 1) (h1 : a5 = a3) (h2 : a2 = a6 + 1) (h3 : a0 = a7) (h4 : a8 = a5 + 1) (h5 : a9 = a4) (h6 : a7 - a10 ≤ a6 - a11) (h7 : a12 - a9 ≤ a13 - a8) (h8 : a11 = a13 + a14) (h9 : a10 = a12) (h10 : 0 ≤ a14) : a0 - a1 ≤ a2 - a3 := by omega
theorem oz_a8afd67e66 {a0 a1 a2 a3 a4 a5 a6 a7 a8 : Int} (h0 : a2 = a0) (h1 : a3 + 1 ≤ a1) (h2 : a2 + a4 ≤ a5) (h3 : a6 + 1 ≤ a3) (h4 : 1 ≤ a4) (h5 : a5 + 1 ≤ a7) (h6 : a7 + a8 ≤ a6) (h7 : 0 ≤ a8) : a0 + 1 ≤ a1 := by omega
theorem m12_126 : Cond.methodLink "HomeSystemModel$Program" 494 ⟨"HomeSystemModel$Program", "inParentheses", "()I"⟩ ∈ AL := AL_12 (List.mem_of_getElem? (i := 126) rfl) rfl
theorem m12_129 : Cond.code ⟨"HomeSystemModel$Program", "inParentheses", "()I"⟩ prog_16_method_50_code 2 (Option.some FieldType.int) ∈ AL := AL_12 (List.mem_of_getElem? (i := 129) rfl) rfl
theorem ms_11_1 : Cond.selects "HomeSystemModel$Program" ⟨"HomeSystemModel$Program", "inParentheses", "()I"⟩ ⟨"HomeSystemModel$Program", "inParentheses", "()I"⟩ ∈ AL := AL_p (q := (⟨"HomeSystemModel$Program", "inParentheses", "()I"⟩, 69)) (by unfold lw_privs; exact List.mem_append_right _ (List.mem_append_right _ (List.mem_append_right _ (List.mem_append_right _ (List.mem_append_right _ (List.mem_append_right _ (List.mem_append_right _ (List.mem_append_right _ (List.mem_append_right _ (List.mem_append_right _ (List.mem_append_left _ (List.mem_of_getElem? (i := 1) rfl))))))))))))
theorem m12_128 : Cond.instanceMethod ⟨"HomeSystemModel$Program", "inParentheses", "()I"⟩ ∈ AL := AL_12 (List.mem_of_getElem? (i := 128) rfl) rfl
theorem m12_130 : Cond.methodLink "HomeSystemModel$Program" 497 ⟨"HomeSystemModel$Program", "takesKey", "(I)Z"⟩ ∈ AL := AL_12 (List.mem_of_getElem? (i := 130) rfl) rfl
theorem m12_133 : Cond.code ⟨"HomeSystemModel$Program", "takesKey", "(I)Z"⟩ prog_16_method_22_code 3 (Option.some FieldType.boolean) ∈ AL := AL_12 (List.mem_of_getElem? (i := 133) rfl) rfl
theorem ms_11_2 : Cond.selects "HomeSystemModel$Program" ⟨"HomeSystemModel$Program", "takesKey", "(I)Z"⟩ ⟨"HomeSystemModel$Program", "takesKey", "(I)Z"⟩ ∈ AL := AL_p (q := (⟨"HomeSystemModel$Program", "takesKey", "(I)Z"⟩, 69)) (by unfold lw_privs; exact List.mem_append_right _ (List.mem_append_right _ (List.mem_append_right _ (List.mem_append_right _ (List.mem_append_right _ (List.mem_append_right _ (List.mem_append_right _ (List.mem_append_right _ (List.mem_append_right _ (List.mem_append_right _ (List.mem_append_left _ (List.mem_of_getElem? (i := 2) rfl))))))))))))
theorem m12_132 : Cond.instanceMethod ⟨"HomeSystemModel$Program", "takesKey", "(I)Z"⟩ ∈ AL := AL_12 (List.mem_of_getElem? (i := 132) rfl) rfl
abbrev b_Mpg_conditioned : ByteArray := prog_16_method_53_code
def y_Mpg_conditioned : MethodName := ⟨"HomeSystemModel$Program", "conditioned", "(I)I"⟩
theorem d_Mpg_conditioned_0 : decode b_Mpg_conditioned 0 = .ok (.aload_n 0, 1) := by decide +kernel
theorem d_Mpg_conditioned_1 : decode b_Mpg_conditioned 1 = .ok (.iload_n 1, 1) := by decide +kernel
theorem d_Mpg_conditioned_2 : decode b_Mpg_conditioned 2 = .ok (.iconst 4, 1) := by decide +kernel
theorem d_Mpg_conditioned_3 : decode b_Mpg_conditioned 3 = .ok (.if_icmp .ne 8, 3) := by decide +kernel
theorem d_Mpg_conditioned_6 : decode b_Mpg_conditioned 6 = .ok (.bipush 24, 2) := by decide +kernel
theorem d_Mpg_conditioned_8 : decode b_Mpg_conditioned 8 = .ok (.goto 5, 3) := by decide +kernel
theorem d_Mpg_conditioned_11 : decode b_Mpg_conditioned 11 = .ok (.bipush 25, 2) := by decide +kernel
theorem d_Mpg_conditioned_13 : decode b_Mpg_conditioned 13 = .ok (.aload_n 0, 1) := by decide +kernel
theorem d_Mpg_conditioned_14 : decode b_Mpg_conditioned 14 = .ok (.getfield 360, 3) := by decide +kernel
theorem d_Mpg_conditioned_17 : decode b_Mpg_conditioned 17 = .ok (.invokevirtual 406, 3) := by decide +kernel
theorem d_Mpg_conditioned_20 : decode b_Mpg_conditioned 20 = .ok (.istore_n 2, 1) := by decide +kernel
theorem d_Mpg_conditioned_21 : decode b_Mpg_conditioned 21 = .ok (.aload_n 0, 1) := by decide +kernel
theorem d_Mpg_conditioned_22 : decode b_Mpg_conditioned 22 = .ok (.invokevirtual 383, 3) := by decide +kernel
theorem d_Mpg_conditioned_25 : decode b_Mpg_conditioned 25 = .ok (.aload_n 0, 1) := by decide +kernel
theorem d_Mpg_conditioned_26 : decode b_Mpg_conditioned 26 = .ok (.getfield 216, 3) := by decide +kernel
theorem d_Mpg_conditioned_29 : decode b_Mpg_conditioned 29 = .ok (.iload_n 2, 1) := by decide +kernel
theorem d_Mpg_conditioned_30 : decode b_Mpg_conditioned 30 = .ok (.aload_n 0, 1) := by decide +kernel
theorem d_Mpg_conditioned_31 : decode b_Mpg_conditioned 31 = .ok (.invokevirtual 494, 3) := by decide +kernel
theorem d_Mpg_conditioned_34 : decode b_Mpg_conditioned 34 = .ok (.iastore, 1) := by decide +kernel
theorem d_Mpg_conditioned_35 : decode b_Mpg_conditioned 35 = .ok (.aload_n 0, 1) := by decide +kernel
theorem d_Mpg_conditioned_36 : decode b_Mpg_conditioned 36 = .ok (.getfield 219, 3) := by decide +kernel
theorem d_Mpg_conditioned_39 : decode b_Mpg_conditioned 39 = .ok (.iload_n 2, 1) := by decide +kernel
theorem d_Mpg_conditioned_40 : decode b_Mpg_conditioned 40 = .ok (.aload_n 0, 1) := by decide +kernel
theorem d_Mpg_conditioned_41 : decode b_Mpg_conditioned 41 = .ok (.invokevirtual 463, 3) := by decide +kernel
theorem d_Mpg_conditioned_44 : decode b_Mpg_conditioned 44 = .ok (.iastore, 1) := by decide +kernel
theorem d_Mpg_conditioned_45 : decode b_Mpg_conditioned 45 = .ok (.iload_n 1, 1) := by decide +kernel
theorem d_Mpg_conditioned_46 : decode b_Mpg_conditioned 46 = .ok (.iconst 4, 1) := by decide +kernel
theorem d_Mpg_conditioned_47 : decode b_Mpg_conditioned 47 = .ok (.if_icmp .ne 21, 3) := by decide +kernel
theorem d_Mpg_conditioned_50 : decode b_Mpg_conditioned 50 = .ok (.aload_n 0, 1) := by decide +kernel
theorem d_Mpg_conditioned_51 : decode b_Mpg_conditioned 51 = .ok (.iconst 5, 1) := by decide +kernel
theorem d_Mpg_conditioned_52 : decode b_Mpg_conditioned 52 = .ok (.invokevirtual 497, 3) := by decide +kernel
theorem d_Mpg_conditioned_55 : decode b_Mpg_conditioned 55 = .ok (.ifCond .eq 13, 3) := by decide +kernel
theorem d_Mpg_conditioned_58 : decode b_Mpg_conditioned 58 = .ok (.aload_n 0, 1) := by decide +kernel
theorem d_Mpg_conditioned_59 : decode b_Mpg_conditioned 59 = .ok (.getfield 222, 3) := by decide +kernel
theorem d_Mpg_conditioned_62 : decode b_Mpg_conditioned 62 = .ok (.iload_n 2, 1) := by decide +kernel
theorem d_Mpg_conditioned_63 : decode b_Mpg_conditioned 63 = .ok (.aload_n 0, 1) := by decide +kernel
theorem d_Mpg_conditioned_64 : decode b_Mpg_conditioned 64 = .ok (.invokevirtual 463, 3) := by decide +kernel
theorem d_Mpg_conditioned_67 : decode b_Mpg_conditioned 67 = .ok (.iastore, 1) := by decide +kernel
theorem d_Mpg_conditioned_68 : decode b_Mpg_conditioned 68 = .ok (.aload_n 0, 1) := by decide +kernel
theorem d_Mpg_conditioned_69 : decode b_Mpg_conditioned 69 = .ok (.dup, 1) := by decide +kernel
theorem d_Mpg_conditioned_70 : decode b_Mpg_conditioned 70 = .ok (.getfield 380, 3) := by decide +kernel
theorem d_Mpg_conditioned_73 : decode b_Mpg_conditioned 73 = .ok (.iconst 1, 1) := by decide +kernel
theorem d_Mpg_conditioned_74 : decode b_Mpg_conditioned 74 = .ok (.isub, 1) := by decide +kernel
theorem d_Mpg_conditioned_75 : decode b_Mpg_conditioned 75 = .ok (.putfield 380, 3) := by decide +kernel
theorem d_Mpg_conditioned_78 : decode b_Mpg_conditioned 78 = .ok (.iload_n 2, 1) := by decide +kernel
theorem d_Mpg_conditioned_79 : decode b_Mpg_conditioned 79 = .ok (.ireturn, 1) := by decide +kernel
theorem q_Mpg_conditioned : px_y y_Mpg_conditioned 1 := by unfold px_y; decide +kernel
set_option maxHeartbeats 4000000 in
set_option maxRecDepth 100000 in
theorem c_mp_conditioned (l : Launch) (D : va_G) (cs : Nat → ClassId) (h : Nat) (r : Nat → Nat) (g : Nat → Nat → Option Nat) (tf : Nat → Int32) (ta : Nat → Nat → Int32) (cf : Nat → Int32) (ca : Nat → Nat → Int32) (ef : Nat → Int32) (ea : Nat → Nat → Int32) (xf : Nat → Int32) (xa : Nat → Nat → Int32) (pf : Nat → Int32) (na : Nat → Nat → Int32) (ma : Nat → Nat → Int32) (wa : Nat → Nat → Int32) (p0 : Int32) (lv : Nat) (g0 : 0 ≤ (pf 11).toInt) (g1 : (pf 11).toInt < (tf 6).toInt) (g2 : (tf 6).toInt ≤ 2049) (g3 : 0 ≤ (pf 12).toInt) (g4 : (pf 12).toInt ≤ 60) (g5 : 0 ≤ (pf 13).toInt) (g6 : (pf 13).toInt ≤ (pf 11).toInt + 10) (g7 : 0 ≤ (pf 26).toInt) (g8 : (pf 26).toInt ≤ (pf 12).toInt) (g9 : 61 ≤ (pf 12).toInt + (lv : Int)) (g10 : lv ≤ 61) (g11 : (pf 11).toInt + 1 < (tf 6).toInt) (hlf : l.flags = pinnedFlags ++ [noTraceFlag]) (htk : TkI tf ta) (hfs : FsI (tf 6).toInt (pf 13).toInt na) (hLT : LvT l D cs lv) : ThI l y_Mpg_conditioned b_Mpg_conditioned 3 (.int) D cs (8 * lv + 26) (220 * lv + 1200) [.ref h, .int p0] [wdP cs h r g tf ta pf na ma wa cf ca ef ea xf xa] (oX (fun A U H => (oN A U H) ∧ (oP A g U H)) [wdP cs h r g tf ta pf na ma wa cf ca ef ea xf xa]) "java/lang/IllegalArgumentException" (fun v ps => ∃ (pf' : Nat → Int32) (na' : Nat → Nat → Int32) (ma' : Nat → Nat → Int32) (wa' : Nat → Nat → Int32), (ps = [wdP cs h r g tf ta pf' na' ma' wa' cf ca ef ea xf xa]) ∧ ((pf 11).toInt + 1 ≤ (pf' 11).toInt) ∧ ((pf' 11).toInt < (tf 6).toInt) ∧ ((pf 13).toInt + 1 ≤ (pf' 13).toInt) ∧ ((pf' 13).toInt - (pf 13).toInt ≤ (pf' 11).toInt - (pf 11).toInt) ∧ (bp ta (pf 11) + 1 ≤ bp ta (pf' 11)) ∧ ((pf' 12).toInt = (pf 12).toInt) ∧ ((pf' 24).toInt = (pf 24).toInt) ∧ ((pf' 25).toInt = (pf 25).toInt) ∧ ((pf' 26).toInt = (pf 26).toInt) ∧ (FrB (pf 13).toInt na ma na' ma') ∧ (FrW (pf 26).toInt wa wa') ∧ (VlS ta (tf 6).toInt na' ma' v (pf 13).toInt (pf' 13).toInt (3 * (bp ta (pf' 11) - bp ta (pf 11))) (200 - (pf 12).toInt)) ∧ (FsI (tf 6).toInt (pf' 13).toInt na') ∧ (R_mp_conditioned (RL_mp_statement lv) ta p0 pf na ma wa pf' na' ma' wa' v 0)) (fun ps => ∃ (pf' : Nat → Int32) (na' : Nat → Nat → Int32) (ma' : Nat → Nat → Int32) (wa' : Nat → Nat → Int32), ps = [wdP cs h r g tf ta pf' na' ma' wa' cf ca ef ea xf xa] ∧ 0 ≤ (pf' 11).toInt ∧ (pf' 11).toInt + 1 ≤ (tf 6).toInt ∧ R_mp_conditioned (RL_mp_statement lv) ta p0 pf na ma wa pf' na' ma' wa' 0 1) := by
  refine th_enter (by decide) (Nat.le_of_ble_eq_true rfl) ?_
  intro p e s m below meth c A ls hAe S hr hlk hnm hA hT hX hw hl hne hadm
  have hl : lv_has ls 3 [(0, .ref h), (1, .int p0)] := hl
  have lp0 := Int32.le_toInt p0
  have up0 := Int32.toInt_lt p0
  have cst1 : (1 : Int32).toInt = 1 := rfl
  have cst4 : (4 : Int32).toInt = 4 := rfl
  have cst5 : (5 : Int32).toInt = 5 := rfl
  have cst24 : (24 : Int32).toInt = 24 := rfl
  have cst25 : (25 : Int32).toInt = 25 := rfl
  have hX : (fun A U H => (oN A U H) ∧ (oP A g U H)) A s s.heap := by rw [hAe]; exact hX
  obtain ⟨hN, hP⟩ := hX
  have hZ := hP.1
  have hF0 := hP.2.1
  have hfb : FrB (pf 13).toInt na ma na ma := FrB.rf
  have hfw : FrW (pf 26).toInt wa wa := FrW.rf
  refine lv_aload_n S.x S.b d_Mpg_conditioned_0 rfl (lv_at hl 0 rfl) ?_
  refine lv_iload_n S.x S.b d_Mpg_conditioned_1 rfl (lv_at hl 1 rfl) ?_
  refine lv_iconst (v := 4) S.x S.b d_Mpg_conditioned_2 (by decide) ?_
  refine lv_icmp_ne (tgt := 11) S.x S.b d_Mpg_conditioned_3 (by decide) (fun c1 => ?_) (fun c1 => ?_)
  · have nc1 : ¬ p0.toInt = (4 : Int) := mt (i_eq (x := p0) (y := 4)).mpr c1
    refine lv_bipush (v := 25) S.x S.b d_Mpg_conditioned_11 (by decide) ?_
    refine lv_aload_n S.x S.b d_Mpg_conditioned_13 rfl (lv_at hl 0 rfl) ?_
    refine gP_11 (v := (pf 11)) S hT hw 0 rfl rfl m9_235 d_Mpg_conditioned_14 ?_
    first | refine px_calli (pr := []) (px_runV (As := [.int 25, .int (pf 11)]) (rest := []) S (c_mp_make l D cs h r g tf ta wa cf ca ef ea xf xa pf na ma 25 (pf 11)  (show 0 ≤ (pf 13).toInt from g5) (show (pf 13).toInt < 2100 from (oz_1fa6c9b1b7 g6 g11 g2)) _) hT (pr := []) (pcs := [wdP cs h r g tf ta pf na ma wa cf ca ef ea xf xa]) hw px_X.tt (px_recv hT hw 0 0 rfl rfl rfl) m11_209 m11_206 m11_208 ms_8_12 m1_21 q_Mpg_make ⟨show 0 + 1 ≤ (8 * lv + 26) from (oz_3fe2768530), show 8 + (3 + 11) + 0 ≤ (220 * lv + 1200) from (oz_877b3efa3f)⟩ hl.1 rfl (Nat.le_of_ble_eq_true rfl) d_Mpg_conditioned_17 ⟨Nat.le_of_ble_eq_true rfl, Nat.le_of_ble_eq_true rfl⟩) hw hA (fun v10 p9 H locs hp9 hw => ?_) | (refine px_calli (pr := []) (px_runV (As := [.int 25, .int (pf 11)]) (rest := []) S (c_mp_make l D cs h r g tf ta wa cf ca ef ea xf xa pf na ma 25 (pf 11)  (show 0 ≤ (pf 13).toInt from by first | exact g5 | omega) (show (pf 13).toInt < 2100 from by first | exact oz_1fa6c9b1b7 g6 g11 g2 | omega) _) hT (pr := []) (pcs := [wdP cs h r g tf ta pf na ma wa cf ca ef ea xf xa]) hw px_X.tt (px_recv hT hw 0 0 rfl rfl rfl) m11_209 m11_206 m11_208 ms_8_12 m1_21 q_Mpg_make ⟨show 0 + 1 ≤ (8 * lv + 26) from (by first | exact oz_3fe2768530 | omega), show 8 + (3 + 11) + 0 ≤ (220 * lv + 1200) from (by first | exact oz_877b3efa3f | omega)⟩ hl.1 rfl (Nat.le_of_ble_eq_true rfl) d_Mpg_conditioned_17 ⟨Nat.le_of_ble_eq_true rfl, Nat.le_of_ble_eq_true rfl⟩) hw hA (fun v10 p9 H locs hp9 hw => ?_))
    obtain ⟨pf6, na7, ma8, rfl, e11, e12, e13, e14, e15, e16, e17, e18, e19⟩ := hp9
    have e11 : v10.toInt = (pf 13).toInt := e11
    have e12 : (pf6 13).toInt = (pf 13).toInt + 1 := e12
    have e13 : (pf6 11).toInt = (pf 11).toInt := e13
    have e14 : (pf6 12).toInt = (pf 12).toInt := e14
    have e15 : (pf6 24).toInt = (pf 24).toInt := e15
    have e16 : (pf6 25).toInt = (pf 25).toInt := e16
    have e17 : (pf6 26).toInt = (pf 26).toInt := e17
    have e18 : MkN na ma na7 ma8 v10 (25 : Int32) (pf 11) := e18
    have e19 : R_mp_make (25 : Int32) (pf 11) pf na ma pf6 na7 ma8 v10 := e19
    obtain ⟨qb201, qb202, qb203, qb204⟩ := tk_eq (ta := ta) (x := (pf6 11)) (y := (pf 11)) (by omega)
    have hmk_v10 := e18
    have hfm_v10 := MkN.frb (b := v10.toInt) hmk_v10 (by omega) (by omega)
    have hfs := FsI.mk hfs hmk_v10 (by omega) (by omega) (by omega) (by omega)
    have hfb := hfb.tr hfm_v10 (by omega)
    have hf_14_v10 := hmk_v10.2.1 (by decide) (by decide)
    have hf_15_v10 := hmk_v10.2.2.1
    have hf_17_v10 := hmk_v10.2.2.2.2.1
    have hf_18_v10 := hmk_v10.2.2.2.2.2.1
    have hf_19_v10 := hmk_v10.2.2.2.2.2.2.1
    have hf_21_v10 := hmk_v10.2.2.2.2.2.2.2.2.1
    clear hmk_v10 hfm_v10
    have lv10 := Int32.le_toInt v10
    have uv10 := Int32.toInt_lt v10
    refine lv_istore_n (lv' := [(2, .int v10), (0, .ref h), (1, .int p0)]) S.x S.b d_Mpg_conditioned_20 rfl hl (by decide) rfl (fun ls hl => ?_)
    refine lv_aload_n S.x S.b d_Mpg_conditioned_21 rfl (lv_at hl 1 rfl) ?_
    first | refine th_callv (ps0 := [wdP cs h r g tf ta pf na ma wa cf ca ef ea xf xa]) (pr := []) (pcs := [wdP cs h r g tf ta pf6 na7 ma8 wa cf ca ef ea xf xa]) (As := []) (rest := []) (c_mp_opens l D cs h r g tf ta na7 ma8 wa cf ca ef ea xf xa pf6   (show 0 ≤ (pf6 11).toInt from (oz_f3ebed1ad0 e13 g0)) (show (pf6 11).toInt < (tf 6).toInt from (oz_0f9fb0345d g11 e13)) (show (tf 6).toInt ≤ 2049 from g2) (show (pf6 11).toInt + 1 < (tf 6).toInt from (oz_4b6b8b2f72 g11 e13)) (show 0 ≤ (pf6 12).toInt from (oz_f3ebed1ad0 e14 g3)) (show (pf6 12).toInt ≤ 60 from (oz_a3db38fa3c e14 g4)) hlf htk) S hT hw (oX_call (P := (fun A U H => (oN A U H) ∧ (oP A g U H))) (pr := []) (oG_and oG_N oG_P) hw hA ⟨hN, hP⟩) (px_recv hT hw 0 0 rfl rfl rfl) m11_238 m11_235 m11_237 ms_9_1 m1_21 q_Mpg_opens ⟨show 7 + 1 ≤ (8 * lv + 26) from (oz_8b673174a9), show 8 + (1 + 11) + 150 ≤ (220 * lv + 1200) from (oz_8d5674cc2c)⟩ hl.1 rfl (Nat.le_of_ble_eq_true rfl) d_Mpg_conditioned_22 ⟨Nat.le_of_ble_eq_true rfl, Nat.le_of_ble_eq_true rfl⟩ hne hlk hA hAe (fun o t h => Or.inr h) ?_ (fun p23 H locs hp23 hw => ?_) | (refine th_callv (ps0 := [wdP cs h r g tf ta pf na ma wa cf ca ef ea xf xa]) (pr := []) (pcs := [wdP cs h r g tf ta pf6 na7 ma8 wa cf ca ef ea xf xa]) (As := []) (rest := []) (c_mp_opens l D cs h r g tf ta na7 ma8 wa cf ca ef ea xf xa pf6   (show 0 ≤ (pf6 11).toInt from by first | exact oz_f3ebed1ad0 e13 g0 | omega) (show (pf6 11).toInt < (tf 6).toInt from by first | exact oz_0f9fb0345d g11 e13 | omega) (show (tf 6).toInt ≤ 2049 from by first | exact g2 | omega) (show (pf6 11).toInt + 1 < (tf 6).toInt from by first | exact oz_4b6b8b2f72 g11 e13 | omega) (show 0 ≤ (pf6 12).toInt from by first | exact oz_f3ebed1ad0 e14 g3 | omega) (show (pf6 12).toInt ≤ 60 from by first | exact oz_a3db38fa3c e14 g4 | omega) hlf htk) S hT hw (oX_call (P := (fun A U H => (oN A U H) ∧ (oP A g U H))) (pr := []) (oG_and oG_N oG_P) hw hA ⟨hN, hP⟩) (px_recv hT hw 0 0 rfl rfl rfl) m11_238 m11_235 m11_237 ms_9_1 m1_21 q_Mpg_opens ⟨show 7 + 1 ≤ (8 * lv + 26) from (by first | exact oz_8b673174a9 | omega), show 8 + (1 + 11) + 150 ≤ (220 * lv + 1200) from (by first | exact oz_8d5674cc2c | omega)⟩ hl.1 rfl (Nat.le_of_ble_eq_true rfl) d_Mpg_conditioned_22 ⟨Nat.le_of_ble_eq_true rfl, Nat.le_of_ble_eq_true rfl⟩ hne hlk hA hAe (fun o t h => Or.inr h) ?_ (fun p23 H locs hp23 hw => ?_))
    · exact fun p1 H1 locs1 hp hw => by obtain ⟨pq1, pq2, pq3, pq4, rfl, hq1, hq2, hu_na, hu_ma, hu_wa, hq3⟩ := hp; exact ⟨_, ⟨pq1, pq2, pq3, pq4, rfl, hq1, hq2, (Or.inl (Or.inl ⟨nc1, pf6, na7, ma8, v10, e19, Or.inl ⟨pq1, hq3, rfl, hu_na, hu_ma, hu_wa, rfl, rfl⟩⟩))⟩, hw⟩
    obtain ⟨pf22, rfl, e25, e26, e27, e28, e29, e30, e31, e32, e33, e34, e35⟩ := hp23
    have e25 : (pf22 11).toInt = (pf6 11).toInt + 1 := e25
    have e26 : (pf22 11).toInt < (tf 6).toInt := e26
    have e27 : bp ta (pf6 11) + sz ta (pf6 11) ≤ bp ta (pf22 11) := e27
    have e28 : 1 ≤ sz ta (pf6 11) := e28
    have e29 : (pf22 12).toInt = (pf6 12).toInt + 1 := e29
    have e30 : (pf6 12).toInt < 60 := e30
    have e31 : (pf22 13).toInt = (pf6 13).toInt := e31
    have e32 : (pf22 24).toInt = (pf6 24).toInt := e32
    have e33 : (pf22 25).toInt = (pf6 25).toInt := e33
    have e34 : (pf22 26).toInt = (pf6 26).toInt := e34
    have e35 : R_mp_opens pf6 pf22 0 := e35
    refine lv_aload_n S.x S.b d_Mpg_conditioned_25 rfl (lv_at hl 1 rfl) ?_
    refine gP_17 S hT hw 0 rfl m10_1 d_Mpg_conditioned_26 ?_
    refine lv_iload_n S.x S.b d_Mpg_conditioned_29 rfl (lv_at hl 0 rfl) ?_
    refine lv_aload_n S.x S.b d_Mpg_conditioned_30 rfl (lv_at hl 1 rfl) ?_
    first | refine th_calli (ps0 := [wdP cs h r g tf ta pf na ma wa cf ca ef ea xf xa]) (pr := []) (pcs := [wdP cs h r g tf ta pf22 na7 ma8 wa cf ca ef ea xf xa]) (As := []) (rest := [.int v10, .ref (r 17)]) (c_mp_inParentheses l D cs h r g tf ta cf ca ef ea xf xa pf22 na7 ma8 wa  lv (show 0 ≤ (pf22 11).toInt from (oz_f3f97b7517 e25 e13 g0)) (show (pf22 11).toInt < (tf 6).toInt from e26) (show (tf 6).toInt ≤ 2049 from g2) (show 0 ≤ (pf22 12).toInt from (oz_87be06313f e29 e14 g8 g7)) (show (pf22 12).toInt ≤ 60 from (oz_6710fd9021 e29 e30)) (show 0 ≤ (pf22 13).toInt from (oz_78ad3463af e31 e12 g5)) (show (pf22 13).toInt ≤ (pf22 11).toInt + 10 from (oz_80eb9436a0 e25 e31 e12 e13 g6)) (show 0 ≤ (pf22 26).toInt from (oz_e2fef14871 e34 e17 g7)) (show (pf22 26).toInt ≤ (pf22 12).toInt from (oz_e919e29b70 e29 e34 e14 e17 g8)) (show 61 ≤ (pf22 12).toInt + (lv : Int) from (oz_927a742cd4 g9 e29 e14)) (show lv ≤ 61 from g10) hlf htk (FsI.le (N' := (pf22 13).toInt) hfs (by omega))) S hT hw (oX_call (P := (fun A U H => (oN A U H) ∧ (oP A g U H))) (pr := []) (oG_and oG_N oG_P) hw hA ⟨hN, hP⟩) (px_recv hT hw 0 0 rfl rfl rfl) m12_129 m12_126 m12_128 ms_11_1 m1_21 q_Mpg_inParentheses ⟨show (8 * lv + 22) + 1 ≤ (8 * lv + 26) from (oz_2e917a000d), show 8 + (2 + 11) + (220 * lv + 1000) ≤ (220 * lv + 1200) from (oz_552b89e250)⟩ hl.1 rfl (Nat.le_of_ble_eq_true rfl) d_Mpg_conditioned_31 ⟨Nat.le_of_ble_eq_true rfl, Nat.le_of_ble_eq_true rfl⟩ hne hlk hA hAe (fun o t h => Or.inr h) ?_ (fun v45 p44 H locs hp44 hw => ?_) | (refine th_calli (ps0 := [wdP cs h r g tf ta pf na ma wa cf ca ef ea xf xa]) (pr := []) (pcs := [wdP cs h r g tf ta pf22 na7 ma8 wa cf ca ef ea xf xa]) (As := []) (rest := [.int v10, .ref (r 17)]) (c_mp_inParentheses l D cs h r g tf ta cf ca ef ea xf xa pf22 na7 ma8 wa  lv (show 0 ≤ (pf22 11).toInt from by first | exact oz_f3f97b7517 e25 e13 g0 | omega) (show (pf22 11).toInt < (tf 6).toInt from by first | exact e26 | omega) (show (tf 6).toInt ≤ 2049 from by first | exact g2 | omega) (show 0 ≤ (pf22 12).toInt from by first | exact oz_87be06313f e29 e14 g8 g7 | omega) (show (pf22 12).toInt ≤ 60 from by first | exact oz_6710fd9021 e29 e30 | omega) (show 0 ≤ (pf22 13).toInt from by first | exact oz_78ad3463af e31 e12 g5 | omega) (show (pf22 13).toInt ≤ (pf22 11).toInt + 10 from by first | exact oz_80eb9436a0 e25 e31 e12 e13 g6 | omega) (show 0 ≤ (pf22 26).toInt from by first | exact oz_e2fef14871 e34 e17 g7 | omega) (show (pf22 26).toInt ≤ (pf22 12).toInt from by first | exact oz_e919e29b70 e29 e34 e14 e17 g8 | omega) (show 61 ≤ (pf22 12).toInt + (lv : Int) from by first | exact oz_927a742cd4 g9 e29 e14 | omega) (show lv ≤ 61 from by first | exact g10 | omega) hlf htk (FsI.le (N' := (pf22 13).toInt) hfs (by omega))) S hT hw (oX_call (P := (fun A U H => (oN A U H) ∧ (oP A g U H))) (pr := []) (oG_and oG_N oG_P) hw hA ⟨hN, hP⟩) (px_recv hT hw 0 0 rfl rfl rfl) m12_129 m12_126 m12_128 ms_11_1 m1_21 q_Mpg_inParentheses ⟨show (8 * lv + 22) + 1 ≤ (8 * lv + 26) from (by first | exact oz_2e917a000d | omega), show 8 + (2 + 11) + (220 * lv + 1000) ≤ (220 * lv + 1200) from (by first | exact oz_552b89e250 | omega)⟩ hl.1 rfl (Nat.le_of_ble_eq_true rfl) d_Mpg_conditioned_31 ⟨Nat.le_of_ble_eq_true rfl, Nat.le_of_ble_eq_true rfl⟩ hne hlk hA hAe (fun o t h => Or.inr h) ?_ (fun v45 p44 H locs hp44 hw => ?_))
    · exact fun p1 H1 locs1 hp hw => by obtain ⟨pq1, pq2, pq3, pq4, rfl, hq1, hq2, hq3⟩ := hp; exact ⟨_, ⟨pq1, pq2, pq3, pq4, rfl, hq1, hq2, (Or.inl (Or.inl ⟨nc1, pf6, na7, ma8, v10, e19, Or.inr ⟨pf22, e35, Or.inl ⟨pq1, pq2, pq3, pq4, hq3, rfl, rfl, rfl, rfl, rfl, rfl⟩⟩⟩))⟩, hw⟩
    obtain ⟨pf40, na41, ma42, wa43, rfl, e46, e47, e48, e49, e50, e51, e52, e53, e54, e55, e56, e57, e58, e59⟩ := hp44
    have e46 : (pf22 11).toInt + 1 ≤ (pf40 11).toInt := e46
    have e47 : (pf40 11).toInt < (tf 6).toInt := e47
    have e48 : (pf22 13).toInt + 1 ≤ (pf40 13).toInt := e48
    have e49 : (pf40 13).toInt - (pf22 13).toInt ≤ (pf40 11).toInt - (pf22 11).toInt := e49
    have e50 : bp ta (pf22 11) + 1 ≤ bp ta (pf40 11) := e50
    have e51 : (pf40 12).toInt = (pf22 12).toInt := e51
    have e52 : (pf40 24).toInt = (pf22 24).toInt := e52
    have e53 : (pf40 25).toInt = (pf22 25).toInt := e53
    have e54 : (pf40 26).toInt = (pf22 26).toInt := e54
    have e55 : FrB (pf22 13).toInt na7 ma8 na41 ma42 := e55
    have hf_14_v10 := (fb_n e55 (by omega) (by omega)).trans hf_14_v10
    have hf_15_v10 := (fb_n e55 (by omega) (by omega)).trans hf_15_v10
    have hf_17_v10 := (fb_n e55 (by omega) (by omega)).trans hf_17_v10
    have hf_18_v10 := (fb_m e55 (by omega) (by omega)).trans hf_18_v10
    have hf_19_v10 := (fb_m e55 (by omega) (by omega)).trans hf_19_v10
    have hf_21_v10 := (fb_n e55 (by omega) (by omega)).trans hf_21_v10
    have hfb := hfb.tr e55 (by omega)
    have e56 : FrW (pf22 26).toInt wa wa43 := e56
    have hfw := hfw.tr e56 (by omega)
    have e57 : ExR ta (tf 6).toInt na41 ma42 v45 (pf22 13).toInt (pf40 13).toInt (3 * (bp ta (pf40 11) - bp ta (pf22 11)) - 6) (pf22 12).toInt := e57
    have ht_v45 := e57
    have hn_ht_v45 := ht_v45.num
    have e58 : FsI (tf 6).toInt (pf40 13).toInt na41 := e58
    have hfs := e58
    have e59 : R_mp_inParentheses ta pf22 na7 ma8 wa pf40 na41 ma42 wa43 v45 0 := e59
    have lv45 := Int32.le_toInt v45
    have uv45 := Int32.toInt_lt v45
    refine px_iast S hT hw 0 13 (n := 2100) (f := (na41 17)) (x := v10) (y := v45) rfl gp_17 (vp_in_iff.mpr (by constructor <;> omega)) d_Mpg_conditioned_34 (w' := wdP cs h r g tf ta pf40 (va_up na41 17 (upd (na41 17) v10.toNatClampNeg v45)) ma42 wa43 cf ca ef ea xf xa) (ps' := [wdP cs h r g tf ta pf40 (va_up na41 17 (upd (na41 17) v10.toNatClampNeg v45)) ma42 wa43 cf ca ef ea xf xa]) sp_17 rfl (fun H locs hw => ?_)
    obtain ⟨na60, hu_na60⟩ : ∃ y : Nat → Nat → Int32, y = va_up na41 17 (upd (na41 17) v10.toNatClampNeg v45) := ⟨_, rfl⟩
    have hw : pw D A s.heap _ _ [wdP cs h r g tf ta pf40 na60 ma42 wa43 cf ca ef ea xf xa] := (by rw [hu_na60]; exact hw)
    obtain ⟨ht_v45, hdq_v45⟩ := ht_v45.ag (ag_n hu_na60 (by omega) (by omega)) (by omega)
    have hn_ht_v45 := ht_v45.num
    have hf_14_v10 := (fl_n hu_na60 (by decide)).trans hf_14_v10
    have hf_15_v10 := (fl_n hu_na60 (by decide)).trans hf_15_v10
    have hf_21_v10 := (fl_n hu_na60 (by decide)).trans hf_21_v10
    have hf_17_v10 : na60 17 v10.toNatClampNeg = v45 := (by rw [hu_na60, va_up_s, pk_us])
    have hfs : FsI _ _ na60 := (by rw [hu_na60]; exact FsI.un hfs (by decide))
    have hfb : FrB (pf 13).toInt na ma na60 ma42 := (by rw [hu_na60]; exact FrB.un hfb (by omega) (by omega))
    refine lv_aload_n S.x S.b d_Mpg_conditioned_35 rfl (lv_at hl 1 rfl) ?_
    refine gP_18 S hT hw 0 rfl m10_3 d_Mpg_conditioned_36 ?_
    refine lv_iload_n S.x S.b d_Mpg_conditioned_39 rfl (lv_at hl 0 rfl) ?_
    refine lv_aload_n S.x S.b d_Mpg_conditioned_40 rfl (lv_at hl 1 rfl) ?_
    first | refine th_calli (ps0 := [wdP cs h r g tf ta pf na ma wa cf ca ef ea xf xa]) (pr := []) (pcs := [wdP cs h r g tf ta pf40 na60 ma42 wa43 cf ca ef ea xf xa]) (As := []) (rest := [.int v10, .ref (r 18)]) ((hLT.go (by omega)) h r g tf ta cf ca ef ea xf xa pf40 na60 ma42 wa43   (show 0 ≤ (pf40 11).toInt from (oz_5d987d7f9e e46 e25 g0 e13)) (show (pf40 11).toInt < (tf 6).toInt from e47) (show (tf 6).toInt ≤ 2049 from g2) (show 0 ≤ (pf40 12).toInt from (oz_18519da00e e51 e29 e14 g3)) (show (pf40 12).toInt ≤ 60 from (oz_1a76b13bbc e51 e29 e30)) (show 0 ≤ (pf40 13).toInt from (oz_3ff206910e e48 e31 e12 g5)) (show (pf40 13).toInt ≤ (pf40 11).toInt + 10 from (oz_71bf65dd77 e49 e25 e31 g6 e12 e13)) (show 0 ≤ (pf40 26).toInt from (oz_11e71ee49a e54 e34 e17 g7)) (show (pf40 26).toInt ≤ (pf40 12).toInt from (oz_2e44d917d0 e51 e54 e29 e34 e14 e17 g8)) (show 61 ≤ (pf40 12).toInt + ((lv - 1 : Nat) : Int) from by omega) (show lv - 1 ≤ 61 from by omega) hlf htk (FsI.le (N' := (pf40 13).toInt) hfs (by omega))) S hT hw (oX_call (P := (fun A U H => (oN A U H) ∧ (oP A g U H))) (pr := []) (oG_and oG_N oG_P) hw hA ⟨hN, hP⟩) (px_recv hT hw 0 0 rfl rfl rfl) m12_101 m12_98 m12_100 ms_10_10 m1_21 q_Mpg_statement ⟨show (8 * (lv - 1) + 28) + 1 ≤ (8 * lv + 26) from by omega, show 8 + (2 + 11) + (220 * (lv - 1) + 1280) ≤ (220 * lv + 1200) from by omega⟩ hl.1 rfl (Nat.le_of_ble_eq_true rfl) d_Mpg_conditioned_41 ⟨Nat.le_of_ble_eq_true rfl, Nat.le_of_ble_eq_true rfl⟩ hne hlk hA hAe (fun o t h => Or.inr h) ?_ (fun v70 p69 H locs hp69 hw => ?_) | (refine th_calli (ps0 := [wdP cs h r g tf ta pf na ma wa cf ca ef ea xf xa]) (pr := []) (pcs := [wdP cs h r g tf ta pf40 na60 ma42 wa43 cf ca ef ea xf xa]) (As := []) (rest := [.int v10, .ref (r 18)]) ((hLT.go (by omega)) h r g tf ta cf ca ef ea xf xa pf40 na60 ma42 wa43   (show 0 ≤ (pf40 11).toInt from by first | exact oz_5d987d7f9e e46 e25 g0 e13 | omega) (show (pf40 11).toInt < (tf 6).toInt from by first | exact e47 | omega) (show (tf 6).toInt ≤ 2049 from by first | exact g2 | omega) (show 0 ≤ (pf40 12).toInt from by first | exact oz_18519da00e e51 e29 e14 g3 | omega) (show (pf40 12).toInt ≤ 60 from by first | exact oz_1a76b13bbc e51 e29 e30 | omega) (show 0 ≤ (pf40 13).toInt from by first | exact oz_3ff206910e e48 e31 e12 g5 | omega) (show (pf40 13).toInt ≤ (pf40 11).toInt + 10 from by first | exact oz_71bf65dd77 e49 e25 e31 g6 e12 e13 | omega) (show 0 ≤ (pf40 26).toInt from by first | exact oz_11e71ee49a e54 e34 e17 g7 | omega) (show (pf40 26).toInt ≤ (pf40 12).toInt from by first | exact oz_2e44d917d0 e51 e54 e29 e34 e14 e17 g8 | omega) (show 61 ≤ (pf40 12).toInt + ((lv - 1 : Nat) : Int) from by omega) (show lv - 1 ≤ 61 from by omega) hlf htk (FsI.le (N' := (pf40 13).toInt) hfs (by omega))) S hT hw (oX_call (P := (fun A U H => (oN A U H) ∧ (oP A g U H))) (pr := []) (oG_and oG_N oG_P) hw hA ⟨hN, hP⟩) (px_recv hT hw 0 0 rfl rfl rfl) m12_101 m12_98 m12_100 ms_10_10 m1_21 q_Mpg_statement ⟨show (8 * (lv - 1) + 28) + 1 ≤ (8 * lv + 26) from by omega, show 8 + (2 + 11) + (220 * (lv - 1) + 1280) ≤ (220 * lv + 1200) from by omega⟩ hl.1 rfl (Nat.le_of_ble_eq_true rfl) d_Mpg_conditioned_41 ⟨Nat.le_of_ble_eq_true rfl, Nat.le_of_ble_eq_true rfl⟩ hne hlk hA hAe (fun o t h => Or.inr h) ?_ (fun v70 p69 H locs hp69 hw => ?_))
    · exact fun p1 H1 locs1 hp hw => by obtain ⟨pq1, pq2, pq3, pq4, rfl, hq1, hq2, hq3⟩ := hp; (first | exact ⟨_, ⟨pq1, pq2, pq3, pq4, rfl, hq1, hq2, (Or.inl (Or.inl ⟨nc1, pf6, na7, ma8, v10, e19, Or.inr ⟨pf22, e35, Or.inr ⟨pf40, na41, ma42, wa43, v45, e59, na60, hu_na60, Or.inl ⟨pq1, pq2, pq3, pq4, (up_RL_mp_statement (show 1 ≤ lv from (oz_6721671b0f g9 g4)) ▸ hq3), rfl, rfl, rfl, rfl, rfl, rfl⟩⟩⟩⟩))⟩, hw⟩ | (exact ⟨_, ⟨pq1, pq2, pq3, pq4, rfl, hq1, hq2, (Or.inl (Or.inl ⟨nc1, pf6, na7, ma8, v10, e19, Or.inr ⟨pf22, e35, Or.inr ⟨pf40, na41, ma42, wa43, v45, e59, na60, hu_na60, Or.inl ⟨pq1, pq2, pq3, pq4, (up_RL_mp_statement (show 1 ≤ lv from by first | exact oz_6721671b0f g9 g4 | omega) ▸ hq3), rfl, rfl, rfl, rfl, rfl, rfl⟩⟩⟩⟩))⟩, hw⟩))
    obtain ⟨pf65, na66, ma67, wa68, rfl, e71, e72, e73, e74, e75, e76, e77, e78, e79, e80, e81, e82, e83, e84⟩ := hp69
    have e71 : (pf40 11).toInt + 1 ≤ (pf65 11).toInt := e71
    have e72 : (pf65 11).toInt < (tf 6).toInt := e72
    have e73 : (pf40 13).toInt + 1 ≤ (pf65 13).toInt := e73
    have e74 : (pf65 13).toInt - (pf40 13).toInt ≤ (pf65 11).toInt - (pf40 11).toInt := e74
    have e75 : bp ta (pf40 11) + 1 ≤ bp ta (pf65 11) := e75
    have e76 : (pf65 12).toInt = (pf40 12).toInt := e76
    have e77 : (pf65 24).toInt = (pf40 24).toInt := e77
    have e78 : (pf65 25).toInt = (pf40 25).toInt := e78
    have e79 : (pf65 26).toInt = (pf40 26).toInt := e79
    have e80 : FrB (pf40 13).toInt na60 ma42 na66 ma67 := e80
    have ht_v45 := ht_v45.kp (FrB.le e80 (by omega)) (by omega)
    have hn_ht_v45 := ht_v45.num
    have hdq_v45 := dp_fb (x := v45) e80 (by omega) (by omega)
    have hf_14_v10 := (fb_n e80 (by omega) (by omega)).trans hf_14_v10
    have hf_15_v10 := (fb_n e80 (by omega) (by omega)).trans hf_15_v10
    have hf_17_v10 := (fb_n e80 (by omega) (by omega)).trans hf_17_v10
    have hf_18_v10 := (fb_m e80 (by omega) (by omega)).trans hf_18_v10
    have hf_19_v10 := (fb_m e80 (by omega) (by omega)).trans hf_19_v10
    have hf_21_v10 := (fb_n e80 (by omega) (by omega)).trans hf_21_v10
    have hfb := hfb.tr e80 (by omega)
    have e81 : FrW (pf40 26).toInt wa43 wa68 := e81
    have hfw := hfw.tr e81 (by omega)
    have e82 : VlS ta (tf 6).toInt na66 ma67 v70 (pf40 13).toInt (pf65 13).toInt (3 * (bp ta (pf65 11) - bp ta (pf40 11))) (200 - (pf40 12).toInt) := e82
    have hv_v70 := e82
    have hn_hv_v70 := hv_v70.num fs_ok
    have e83 : FsI (tf 6).toInt (pf65 13).toInt na66 := e83
    have hfs := e83
    have e84 : R_mp_statement (RL_mp_statement (lv - 1)) ta pf40 na60 ma42 wa43 pf65 na66 ma67 wa68 v70 0 := e84
    first | have e84L : (RL_mp_statement lv) ta pf40 na60 ma42 wa43 pf65 na66 ma67 wa68 v70 0 := up_RL_mp_statement (show 1 ≤ lv from (oz_6721671b0f g9 g4)) ▸ e84 | (have e84L : (RL_mp_statement lv) ta pf40 na60 ma42 wa43 pf65 na66 ma67 wa68 v70 0 := up_RL_mp_statement (show 1 ≤ lv from by first | exact oz_6721671b0f g9 g4 | omega) ▸ e84)
    have lv70 := Int32.le_toInt v70
    have uv70 := Int32.toInt_lt v70
    refine px_iast S hT hw 0 14 (n := 2100) (f := (ma67 18)) (x := v10) (y := v70) rfl gp_18 (vp_in_iff.mpr (by constructor <;> omega)) d_Mpg_conditioned_44 (w' := wdP cs h r g tf ta pf65 na66 (va_up ma67 18 (upd (ma67 18) v10.toNatClampNeg v70)) wa68 cf ca ef ea xf xa) (ps' := [wdP cs h r g tf ta pf65 na66 (va_up ma67 18 (upd (ma67 18) v10.toNatClampNeg v70)) wa68 cf ca ef ea xf xa]) sp_18 rfl (fun H locs hw => ?_)
    obtain ⟨ma85, hu_ma85⟩ : ∃ y : Nat → Nat → Int32, y = va_up ma67 18 (upd (ma67 18) v10.toNatClampNeg v70) := ⟨_, rfl⟩
    have hw : pw D A s.heap _ _ [wdP cs h r g tf ta pf65 na66 ma85 wa68 cf ca ef ea xf xa] := (by rw [hu_ma85]; exact hw)
    obtain ⟨ht_v45, hdq_v45⟩ := ht_v45.ag (ag_m hu_ma85 (by omega) (by omega)) (by omega)
    have hn_ht_v45 := ht_v45.num
    have hv_v70 := hv_v70.ag fs_ok (ag_m hu_ma85 (by omega) (by omega))
    have hf_19_v10 := (fl_n hu_ma85 (by decide)).trans hf_19_v10
    have hf_18_v10 : ma85 18 v10.toNatClampNeg = v70 := (by rw [hu_ma85, va_up_s, pk_us])
    have hfb : FrB (pf 13).toInt na ma na66 ma85 := (by rw [hu_ma85]; exact FrB.um hfb (by omega) (by omega))
    refine lv_iload_n S.x S.b d_Mpg_conditioned_45 rfl (lv_at hl 2 rfl) ?_
    refine lv_iconst (v := 4) S.x S.b d_Mpg_conditioned_46 (by decide) ?_
    refine lv_icmp_ne (tgt := 68) S.x S.b d_Mpg_conditioned_47 (by decide) (fun c86 => ?_) (fun c86 => ?_)
    · have nc86 : ¬ p0.toInt = (4 : Int) := mt (i_eq (x := p0) (y := 4)).mpr c86
      refine lv_aload_n S.x S.b d_Mpg_conditioned_68 rfl (lv_at hl 1 rfl) ?_
      refine lv_dup S.x S.b d_Mpg_conditioned_69 rfl ?_
      refine gP_12 (v := (pf65 12)) S hT hw 0 rfl rfl m9_236 d_Mpg_conditioned_70 ?_
      refine lv_iconst (v := 1) S.x S.b d_Mpg_conditioned_73 (by decide) ?_
      refine lv_isub S.x S.b d_Mpg_conditioned_74 ?_
      have lr88 := Int32.le_toInt (pf65 12)
      have ur88 := Int32.toInt_lt (pf65 12)
      refine lv_topi (fun z89 ez89 => ?_)
      have tz89 : z89.toInt = ((pf65 12).toInt - (1 : Int) + 2147483648) % 4294967296 - 2147483648 := by rw [ez89]; exact i_sub (pf65 12) 1
      have lz89 := Int32.le_toInt z89
      have uz89 := Int32.toInt_lt z89
      try replace tz89 : z89.toInt = (pf65 12).toInt - (1 : Int) := by omega
      refine pP_12 S hT hw 0 rfl m9_236 rfl rfl rfl d_Mpg_conditioned_75 (ps' := [wdP cs h r g tf ta (upd pf65 12 z89) na66 ma85 wa68 cf ca ef ea xf xa]) rfl (fun H locs hw => ?_)
      refine lv_iload_n S.x S.b d_Mpg_conditioned_78 rfl (lv_at hl 0 rfl) ?_
      first | exact th_iret (v := v10) S hr rfl hlk hAe hw (⟨(upd pf65 12 z89), na66, ma85, wa68, rfl, (show (pf 11).toInt + 1 ≤ (pf65 11).toInt from (oz_fab1129875 e13 e71 e25 e46)), (show (pf65 11).toInt < (tf 6).toInt from e72), (show (pf 13).toInt + 1 ≤ (pf65 13).toInt from (oz_155f230f77 e12 e73 e31 e48)), (show (pf65 13).toInt - (pf 13).toInt ≤ (pf65 11).toInt - (pf 11).toInt from (oz_cc65ad6daa e12 e13 e74 e25 e31 e49)), (show bp ta (pf 11) + 1 ≤ bp ta (pf65 11) from (oz_b24f33b5c5 qb201 e75 e27 e50 e28)), (show z89.toInt = (pf 12).toInt from (oz_e4189b3632 e14 tz89 e29 e76 e51)), (show (pf65 24).toInt = (pf 24).toInt from (oz_ff3084e3c1 e15 e77 e32 e52)), (show (pf65 25).toInt = (pf 25).toInt from (oz_ff3084e3c1 e16 e78 e33 e53)), (show (pf65 26).toInt = (pf 26).toInt from (oz_ff3084e3c1 e17 e79 e34 e54)), (show FrB (pf 13).toInt na ma na66 ma85 from hfb), (show FrW (pf 26).toInt wa wa68 from hfw), (show VlS ta (tf 6).toInt na66 ma85 v10 (pf 13).toInt (pf65 13).toInt (3 * (bp ta (pf65 11) - bp ta (pf 11))) (200 - (pf 12).toInt) from (VlV.le (st_if (hi := (pf65 13).toInt) (D := (199 - (pf 12).toInt)) ⟨by omega, hf_14_v10, hf_15_v10, ⟨by omega, by omega⟩, hf_21_v10⟩ (by decide) hf_17_v10 hf_18_v10 hf_19_v10 (by omega) (VlV.le (exr_vl ht_v45 (by omega)) (Int.le_refl _) (Int.le_refl _) (Int.le_refl _) (by omega)) (VlV.le hv_v70 (Int.le_refl _) (Int.le_refl _) (Int.le_refl _) (by omega)) (oz_n (lo := (pf65 13).toInt) (W := 0) (by decide) (by omega)) (fun _ => by decide) (by omega) (by omega) (by omega) (by omega)) (by omega) (by omega) (by omega) (by omega))), (show FsI (tf 6).toInt (pf65 13).toInt na66 from (FsI.le hfs (by omega))), (show R_mp_conditioned (RL_mp_statement lv) ta p0 pf na ma wa (upd pf65 12 z89) na66 ma85 wa68 v10 0 from (Or.inl (Or.inl ⟨nc1, pf6, na7, ma8, v10, e19, Or.inr ⟨pf22, e35, Or.inr ⟨pf40, na41, ma42, wa43, v45, e59, na60, hu_na60, Or.inr ⟨pf65, na66, ma67, wa68, v70, e84L, ma85, hu_ma85, nc86, z89, ez89, rfl, rfl, rfl, rfl, rfl, rfl⟩⟩⟩⟩)))⟩) d_Mpg_conditioned_79 | (exact th_iret (v := v10) S hr rfl hlk hAe hw (⟨(upd pf65 12 z89), na66, ma85, wa68, rfl, (show (pf 11).toInt + 1 ≤ (pf65 11).toInt from by first | exact oz_fab1129875 e13 e71 e25 e46 | omega), (show (pf65 11).toInt < (tf 6).toInt from by first | exact e72 | omega), (show (pf 13).toInt + 1 ≤ (pf65 13).toInt from by first | exact oz_155f230f77 e12 e73 e31 e48 | omega), (show (pf65 13).toInt - (pf 13).toInt ≤ (pf65 11).toInt - (pf 11).toInt from by first | exact oz_cc65ad6daa e12 e13 e74 e25 e31 e49 | omega), (show bp ta (pf 11) + 1 ≤ bp ta (pf65 11) from by first | exact oz_b24f33b5c5 qb201 e75 e27 e50 e28 | omega), (show z89.toInt = (pf 12).toInt from by first | exact oz_e4189b3632 e14 tz89 e29 e76 e51 | omega), (show (pf65 24).toInt = (pf 24).toInt from by first | exact oz_ff3084e3c1 e15 e77 e32 e52 | omega), (show (pf65 25).toInt = (pf 25).toInt from by first | exact oz_ff3084e3c1 e16 e78 e33 e53 | omega), (show (pf65 26).toInt = (pf 26).toInt from by first | exact oz_ff3084e3c1 e17 e79 e34 e54 | omega), (show FrB (pf 13).toInt na ma na66 ma85 from hfb), (show FrW (pf 26).toInt wa wa68 from hfw), (show VlS ta (tf 6).toInt na66 ma85 v10 (pf 13).toInt (pf65 13).toInt (3 * (bp ta (pf65 11) - bp ta (pf 11))) (200 - (pf 12).toInt) from (VlV.le (st_if (hi := (pf65 13).toInt) (D := (199 - (pf 12).toInt)) ⟨by omega, hf_14_v10, hf_15_v10, ⟨by omega, by omega⟩, hf_21_v10⟩ (by decide) hf_17_v10 hf_18_v10 hf_19_v10 (by omega) (VlV.le (exr_vl ht_v45 (by omega)) (Int.le_refl _) (Int.le_refl _) (Int.le_refl _) (by omega)) (VlV.le hv_v70 (Int.le_refl _) (Int.le_refl _) (Int.le_refl _) (by omega)) (oz_n (lo := (pf65 13).toInt) (W := 0) (by decide) (by omega)) (fun _ => by decide) (by omega) (by omega) (by omega) (by omega)) (by omega) (by omega) (by omega) (by omega))), (show FsI (tf 6).toInt (pf65 13).toInt na66 from (FsI.le hfs (by omega))), (show R_mp_conditioned (RL_mp_statement lv) ta p0 pf na ma wa (upd pf65 12 z89) na66 ma85 wa68 v10 0 from (Or.inl (Or.inl ⟨nc1, pf6, na7, ma8, v10, e19, Or.inr ⟨pf22, e35, Or.inr ⟨pf40, na41, ma42, wa43, v45, e59, na60, hu_na60, Or.inr ⟨pf65, na66, ma67, wa68, v70, e84L, ma85, hu_ma85, nc86, z89, ez89, rfl, rfl, rfl, rfl, rfl, rfl⟩⟩⟩⟩)))⟩) d_Mpg_conditioned_79)
    · have nc86 : p0.toInt = (4 : Int) := (i_eq (x := p0) (y := 4)).mp c86
      exfalso
      omega
  · have nc1 : p0.toInt = (4 : Int) := (i_eq (x := p0) (y := 4)).mp c1
    refine lv_bipush (v := 24) S.x S.b d_Mpg_conditioned_6 (by decide) ?_
    refine lv_goto (tgt := 13) S.x S.b d_Mpg_conditioned_8 (by decide) ?_
    refine lv_aload_n S.x S.b d_Mpg_conditioned_13 rfl (lv_at hl 0 rfl) ?_
    refine gP_11 (v := (pf 11)) S hT hw 0 rfl rfl m9_235 d_Mpg_conditioned_14 ?_
    first | refine px_calli (pr := []) (px_runV (As := [.int 24, .int (pf 11)]) (rest := []) S (c_mp_make l D cs h r g tf ta wa cf ca ef ea xf xa pf na ma 24 (pf 11)  (show 0 ≤ (pf 13).toInt from g5) (show (pf 13).toInt < 2100 from (oz_1fa6c9b1b7 g6 g11 g2)) _) hT (pr := []) (pcs := [wdP cs h r g tf ta pf na ma wa cf ca ef ea xf xa]) hw px_X.tt (px_recv hT hw 0 0 rfl rfl rfl) m11_209 m11_206 m11_208 ms_8_12 m1_21 q_Mpg_make ⟨show 0 + 1 ≤ (8 * lv + 26) from (oz_3fe2768530), show 8 + (3 + 11) + 0 ≤ (220 * lv + 1200) from (oz_877b3efa3f)⟩ hl.1 rfl (Nat.le_of_ble_eq_true rfl) d_Mpg_conditioned_17 ⟨Nat.le_of_ble_eq_true rfl, Nat.le_of_ble_eq_true rfl⟩) hw hA (fun v97 p96 H locs hp96 hw => ?_) | (refine px_calli (pr := []) (px_runV (As := [.int 24, .int (pf 11)]) (rest := []) S (c_mp_make l D cs h r g tf ta wa cf ca ef ea xf xa pf na ma 24 (pf 11)  (show 0 ≤ (pf 13).toInt from by first | exact g5 | omega) (show (pf 13).toInt < 2100 from by first | exact oz_1fa6c9b1b7 g6 g11 g2 | omega) _) hT (pr := []) (pcs := [wdP cs h r g tf ta pf na ma wa cf ca ef ea xf xa]) hw px_X.tt (px_recv hT hw 0 0 rfl rfl rfl) m11_209 m11_206 m11_208 ms_8_12 m1_21 q_Mpg_make ⟨show 0 + 1 ≤ (8 * lv + 26) from (by first | exact oz_3fe2768530 | omega), show 8 + (3 + 11) + 0 ≤ (220 * lv + 1200) from (by first | exact oz_877b3efa3f | omega)⟩ hl.1 rfl (Nat.le_of_ble_eq_true rfl) d_Mpg_conditioned_17 ⟨Nat.le_of_ble_eq_true rfl, Nat.le_of_ble_eq_true rfl⟩) hw hA (fun v97 p96 H locs hp96 hw => ?_))
    obtain ⟨pf93, na94, ma95, rfl, e98, e99, e100, e101, e102, e103, e104, e105, e106⟩ := hp96
    have e98 : v97.toInt = (pf 13).toInt := e98
    have e99 : (pf93 13).toInt = (pf 13).toInt + 1 := e99
    have e100 : (pf93 11).toInt = (pf 11).toInt := e100
    have e101 : (pf93 12).toInt = (pf 12).toInt := e101
    have e102 : (pf93 24).toInt = (pf 24).toInt := e102
    have e103 : (pf93 25).toInt = (pf 25).toInt := e103
    have e104 : (pf93 26).toInt = (pf 26).toInt := e104
    have e105 : MkN na ma na94 ma95 v97 (24 : Int32) (pf 11) := e105
    have e106 : R_mp_make (24 : Int32) (pf 11) pf na ma pf93 na94 ma95 v97 := e106
    obtain ⟨qb1071, qb1072, qb1073, qb1074⟩ := tk_eq (ta := ta) (x := (pf93 11)) (y := (pf 11)) (by omega)
    have hmk_v97 := e105
    have hfm_v97 := MkN.frb (b := v97.toInt) hmk_v97 (by omega) (by omega)
    have hfs := FsI.mk hfs hmk_v97 (by omega) (by omega) (by omega) (by omega)
    have hfb := hfb.tr hfm_v97 (by omega)
    have hf_14_v97 := hmk_v97.2.1 (by decide) (by decide)
    have hf_15_v97 := hmk_v97.2.2.1
    have hf_17_v97 := hmk_v97.2.2.2.2.1
    have hf_18_v97 := hmk_v97.2.2.2.2.2.1
    have hf_19_v97 := hmk_v97.2.2.2.2.2.2.1
    have hf_21_v97 := hmk_v97.2.2.2.2.2.2.2.2.1
    clear hmk_v97 hfm_v97
    have lv97 := Int32.le_toInt v97
    have uv97 := Int32.toInt_lt v97
    refine lv_istore_n (lv' := [(2, .int v97), (0, .ref h), (1, .int p0)]) S.x S.b d_Mpg_conditioned_20 rfl hl (by decide) rfl (fun ls hl => ?_)
    refine lv_aload_n S.x S.b d_Mpg_conditioned_21 rfl (lv_at hl 1 rfl) ?_
    first | refine th_callv (ps0 := [wdP cs h r g tf ta pf na ma wa cf ca ef ea xf xa]) (pr := []) (pcs := [wdP cs h r g tf ta pf93 na94 ma95 wa cf ca ef ea xf xa]) (As := []) (rest := []) (c_mp_opens l D cs h r g tf ta na94 ma95 wa cf ca ef ea xf xa pf93   (show 0 ≤ (pf93 11).toInt from (oz_f3ebed1ad0 e100 g0)) (show (pf93 11).toInt < (tf 6).toInt from (oz_0f9fb0345d g11 e100)) (show (tf 6).toInt ≤ 2049 from g2) (show (pf93 11).toInt + 1 < (tf 6).toInt from (oz_4b6b8b2f72 g11 e100)) (show 0 ≤ (pf93 12).toInt from (oz_f3ebed1ad0 e101 g3)) (show (pf93 12).toInt ≤ 60 from (oz_a3db38fa3c e101 g4)) hlf htk) S hT hw (oX_call (P := (fun A U H => (oN A U H) ∧ (oP A g U H))) (pr := []) (oG_and oG_N oG_P) hw hA ⟨hN, hP⟩) (px_recv hT hw 0 0 rfl rfl rfl) m11_238 m11_235 m11_237 ms_9_1 m1_21 q_Mpg_opens ⟨show 7 + 1 ≤ (8 * lv + 26) from (oz_8b673174a9), show 8 + (1 + 11) + 150 ≤ (220 * lv + 1200) from (oz_8d5674cc2c)⟩ hl.1 rfl (Nat.le_of_ble_eq_true rfl) d_Mpg_conditioned_22 ⟨Nat.le_of_ble_eq_true rfl, Nat.le_of_ble_eq_true rfl⟩ hne hlk hA hAe (fun o t h => Or.inr h) ?_ (fun p110 H locs hp110 hw => ?_) | (refine th_callv (ps0 := [wdP cs h r g tf ta pf na ma wa cf ca ef ea xf xa]) (pr := []) (pcs := [wdP cs h r g tf ta pf93 na94 ma95 wa cf ca ef ea xf xa]) (As := []) (rest := []) (c_mp_opens l D cs h r g tf ta na94 ma95 wa cf ca ef ea xf xa pf93   (show 0 ≤ (pf93 11).toInt from by first | exact oz_f3ebed1ad0 e100 g0 | omega) (show (pf93 11).toInt < (tf 6).toInt from by first | exact oz_0f9fb0345d g11 e100 | omega) (show (tf 6).toInt ≤ 2049 from by first | exact g2 | omega) (show (pf93 11).toInt + 1 < (tf 6).toInt from by first | exact oz_4b6b8b2f72 g11 e100 | omega) (show 0 ≤ (pf93 12).toInt from by first | exact oz_f3ebed1ad0 e101 g3 | omega) (show (pf93 12).toInt ≤ 60 from by first | exact oz_a3db38fa3c e101 g4 | omega) hlf htk) S hT hw (oX_call (P := (fun A U H => (oN A U H) ∧ (oP A g U H))) (pr := []) (oG_and oG_N oG_P) hw hA ⟨hN, hP⟩) (px_recv hT hw 0 0 rfl rfl rfl) m11_238 m11_235 m11_237 ms_9_1 m1_21 q_Mpg_opens ⟨show 7 + 1 ≤ (8 * lv + 26) from (by first | exact oz_8b673174a9 | omega), show 8 + (1 + 11) + 150 ≤ (220 * lv + 1200) from (by first | exact oz_8d5674cc2c | omega)⟩ hl.1 rfl (Nat.le_of_ble_eq_true rfl) d_Mpg_conditioned_22 ⟨Nat.le_of_ble_eq_true rfl, Nat.le_of_ble_eq_true rfl⟩ hne hlk hA hAe (fun o t h => Or.inr h) ?_ (fun p110 H locs hp110 hw => ?_))
    · exact fun p1 H1 locs1 hp hw => by obtain ⟨pq1, pq2, pq3, pq4, rfl, hq1, hq2, hu_na, hu_ma, hu_wa, hq3⟩ := hp; exact ⟨_, ⟨pq1, pq2, pq3, pq4, rfl, hq1, hq2, (Or.inl (Or.inr ⟨nc1, pf93, na94, ma95, v97, e106, Or.inl ⟨pq1, hq3, rfl, hu_na, hu_ma, hu_wa, rfl, rfl⟩⟩))⟩, hw⟩
    obtain ⟨pf109, rfl, e112, e113, e114, e115, e116, e117, e118, e119, e120, e121, e122⟩ := hp110
    have e112 : (pf109 11).toInt = (pf93 11).toInt + 1 := e112
    have e113 : (pf109 11).toInt < (tf 6).toInt := e113
    have e114 : bp ta (pf93 11) + sz ta (pf93 11) ≤ bp ta (pf109 11) := e114
    have e115 : 1 ≤ sz ta (pf93 11) := e115
    have e116 : (pf109 12).toInt = (pf93 12).toInt + 1 := e116
    have e117 : (pf93 12).toInt < 60 := e117
    have e118 : (pf109 13).toInt = (pf93 13).toInt := e118
    have e119 : (pf109 24).toInt = (pf93 24).toInt := e119
    have e120 : (pf109 25).toInt = (pf93 25).toInt := e120
    have e121 : (pf109 26).toInt = (pf93 26).toInt := e121
    have e122 : R_mp_opens pf93 pf109 0 := e122
    refine lv_aload_n S.x S.b d_Mpg_conditioned_25 rfl (lv_at hl 1 rfl) ?_
    refine gP_17 S hT hw 0 rfl m10_1 d_Mpg_conditioned_26 ?_
    refine lv_iload_n S.x S.b d_Mpg_conditioned_29 rfl (lv_at hl 0 rfl) ?_
    refine lv_aload_n S.x S.b d_Mpg_conditioned_30 rfl (lv_at hl 1 rfl) ?_
    first | refine th_calli (ps0 := [wdP cs h r g tf ta pf na ma wa cf ca ef ea xf xa]) (pr := []) (pcs := [wdP cs h r g tf ta pf109 na94 ma95 wa cf ca ef ea xf xa]) (As := []) (rest := [.int v97, .ref (r 17)]) (c_mp_inParentheses l D cs h r g tf ta cf ca ef ea xf xa pf109 na94 ma95 wa  lv (show 0 ≤ (pf109 11).toInt from (oz_f3f97b7517 e112 e100 g0)) (show (pf109 11).toInt < (tf 6).toInt from e113) (show (tf 6).toInt ≤ 2049 from g2) (show 0 ≤ (pf109 12).toInt from (oz_87be06313f e116 e101 g8 g7)) (show (pf109 12).toInt ≤ 60 from (oz_6710fd9021 e116 e117)) (show 0 ≤ (pf109 13).toInt from (oz_78ad3463af e118 e99 g5)) (show (pf109 13).toInt ≤ (pf109 11).toInt + 10 from (oz_80eb9436a0 e112 e118 e99 e100 g6)) (show 0 ≤ (pf109 26).toInt from (oz_e2fef14871 e121 e104 g7)) (show (pf109 26).toInt ≤ (pf109 12).toInt from (oz_e919e29b70 e116 e121 e101 e104 g8)) (show 61 ≤ (pf109 12).toInt + (lv : Int) from (oz_927a742cd4 g9 e116 e101)) (show lv ≤ 61 from g10) hlf htk (FsI.le (N' := (pf109 13).toInt) hfs (by omega))) S hT hw (oX_call (P := (fun A U H => (oN A U H) ∧ (oP A g U H))) (pr := []) (oG_and oG_N oG_P) hw hA ⟨hN, hP⟩) (px_recv hT hw 0 0 rfl rfl rfl) m12_129 m12_126 m12_128 ms_11_1 m1_21 q_Mpg_inParentheses ⟨show (8 * lv + 22) + 1 ≤ (8 * lv + 26) from (oz_2e917a000d), show 8 + (2 + 11) + (220 * lv + 1000) ≤ (220 * lv + 1200) from (oz_552b89e250)⟩ hl.1 rfl (Nat.le_of_ble_eq_true rfl) d_Mpg_conditioned_31 ⟨Nat.le_of_ble_eq_true rfl, Nat.le_of_ble_eq_true rfl⟩ hne hlk hA hAe (fun o t h => Or.inr h) ?_ (fun v132 p131 H locs hp131 hw => ?_) | (refine th_calli (ps0 := [wdP cs h r g tf ta pf na ma wa cf ca ef ea xf xa]) (pr := []) (pcs := [wdP cs h r g tf ta pf109 na94 ma95 wa cf ca ef ea xf xa]) (As := []) (rest := [.int v97, .ref (r 17)]) (c_mp_inParentheses l D cs h r g tf ta cf ca ef ea xf xa pf109 na94 ma95 wa  lv (show 0 ≤ (pf109 11).toInt from by first | exact oz_f3f97b7517 e112 e100 g0 | omega) (show (pf109 11).toInt < (tf 6).toInt from by first | exact e113 | omega) (show (tf 6).toInt ≤ 2049 from by first | exact g2 | omega) (show 0 ≤ (pf109 12).toInt from by first | exact oz_87be06313f e116 e101 g8 g7 | omega) (show (pf109 12).toInt ≤ 60 from by first | exact oz_6710fd9021 e116 e117 | omega) (show 0 ≤ (pf109 13).toInt from by first | exact oz_78ad3463af e118 e99 g5 | omega) (show (pf109 13).toInt ≤ (pf109 11).toInt + 10 from by first | exact oz_80eb9436a0 e112 e118 e99 e100 g6 | omega) (show 0 ≤ (pf109 26).toInt from by first | exact oz_e2fef14871 e121 e104 g7 | omega) (show (pf109 26).toInt ≤ (pf109 12).toInt from by first | exact oz_e919e29b70 e116 e121 e101 e104 g8 | omega) (show 61 ≤ (pf109 12).toInt + (lv : Int) from by first | exact oz_927a742cd4 g9 e116 e101 | omega) (show lv ≤ 61 from by first | exact g10 | omega) hlf htk (FsI.le (N' := (pf109 13).toInt) hfs (by omega))) S hT hw (oX_call (P := (fun A U H => (oN A U H) ∧ (oP A g U H))) (pr := []) (oG_and oG_N oG_P) hw hA ⟨hN, hP⟩) (px_recv hT hw 0 0 rfl rfl rfl) m12_129 m12_126 m12_128 ms_11_1 m1_21 q_Mpg_inParentheses ⟨show (8 * lv + 22) + 1 ≤ (8 * lv + 26) from (by first | exact oz_2e917a000d | omega), show 8 + (2 + 11) + (220 * lv + 1000) ≤ (220 * lv + 1200) from (by first | exact oz_552b89e250 | omega)⟩ hl.1 rfl (Nat.le_of_ble_eq_true rfl) d_Mpg_conditioned_31 ⟨Nat.le_of_ble_eq_true rfl, Nat.le_of_ble_eq_true rfl⟩ hne hlk hA hAe (fun o t h => Or.inr h) ?_ (fun v132 p131 H locs hp131 hw => ?_))
    · exact fun p1 H1 locs1 hp hw => by obtain ⟨pq1, pq2, pq3, pq4, rfl, hq1, hq2, hq3⟩ := hp; exact ⟨_, ⟨pq1, pq2, pq3, pq4, rfl, hq1, hq2, (Or.inl (Or.inr ⟨nc1, pf93, na94, ma95, v97, e106, Or.inr ⟨pf109, e122, Or.inl ⟨pq1, pq2, pq3, pq4, hq3, rfl, rfl, rfl, rfl, rfl, rfl⟩⟩⟩))⟩, hw⟩
    obtain ⟨pf127, na128, ma129, wa130, rfl, e133, e134, e135, e136, e137, e138, e139, e140, e141, e142, e143, e144, e145, e146⟩ := hp131
    have e133 : (pf109 11).toInt + 1 ≤ (pf127 11).toInt := e133
    have e134 : (pf127 11).toInt < (tf 6).toInt := e134
    have e135 : (pf109 13).toInt + 1 ≤ (pf127 13).toInt := e135
    have e136 : (pf127 13).toInt - (pf109 13).toInt ≤ (pf127 11).toInt - (pf109 11).toInt := e136
    have e137 : bp ta (pf109 11) + 1 ≤ bp ta (pf127 11) := e137
    have e138 : (pf127 12).toInt = (pf109 12).toInt := e138
    have e139 : (pf127 24).toInt = (pf109 24).toInt := e139
    have e140 : (pf127 25).toInt = (pf109 25).toInt := e140
    have e141 : (pf127 26).toInt = (pf109 26).toInt := e141
    have e142 : FrB (pf109 13).toInt na94 ma95 na128 ma129 := e142
    have hf_14_v97 := (fb_n e142 (by omega) (by omega)).trans hf_14_v97
    have hf_15_v97 := (fb_n e142 (by omega) (by omega)).trans hf_15_v97
    have hf_17_v97 := (fb_n e142 (by omega) (by omega)).trans hf_17_v97
    have hf_18_v97 := (fb_m e142 (by omega) (by omega)).trans hf_18_v97
    have hf_19_v97 := (fb_m e142 (by omega) (by omega)).trans hf_19_v97
    have hf_21_v97 := (fb_n e142 (by omega) (by omega)).trans hf_21_v97
    have hfb := hfb.tr e142 (by omega)
    have e143 : FrW (pf109 26).toInt wa wa130 := e143
    have hfw := hfw.tr e143 (by omega)
    have e144 : ExR ta (tf 6).toInt na128 ma129 v132 (pf109 13).toInt (pf127 13).toInt (3 * (bp ta (pf127 11) - bp ta (pf109 11)) - 6) (pf109 12).toInt := e144
    have ht_v132 := e144
    have hn_ht_v132 := ht_v132.num
    have e145 : FsI (tf 6).toInt (pf127 13).toInt na128 := e145
    have hfs := e145
    have e146 : R_mp_inParentheses ta pf109 na94 ma95 wa pf127 na128 ma129 wa130 v132 0 := e146
    have lv132 := Int32.le_toInt v132
    have uv132 := Int32.toInt_lt v132
    refine px_iast S hT hw 0 13 (n := 2100) (f := (na128 17)) (x := v97) (y := v132) rfl gp_17 (vp_in_iff.mpr (by constructor <;> omega)) d_Mpg_conditioned_34 (w' := wdP cs h r g tf ta pf127 (va_up na128 17 (upd (na128 17) v97.toNatClampNeg v132)) ma129 wa130 cf ca ef ea xf xa) (ps' := [wdP cs h r g tf ta pf127 (va_up na128 17 (upd (na128 17) v97.toNatClampNeg v132)) ma129 wa130 cf ca ef ea xf xa]) sp_17 rfl (fun H locs hw => ?_)
    obtain ⟨na147, hu_na147⟩ : ∃ y : Nat → Nat → Int32, y = va_up na128 17 (upd (na128 17) v97.toNatClampNeg v132) := ⟨_, rfl⟩
    have hw : pw D A s.heap _ _ [wdP cs h r g tf ta pf127 na147 ma129 wa130 cf ca ef ea xf xa] := (by rw [hu_na147]; exact hw)
    obtain ⟨ht_v132, hdq_v132⟩ := ht_v132.ag (ag_n hu_na147 (by omega) (by omega)) (by omega)
    have hn_ht_v132 := ht_v132.num
    have hf_14_v97 := (fl_n hu_na147 (by decide)).trans hf_14_v97
    have hf_15_v97 := (fl_n hu_na147 (by decide)).trans hf_15_v97
    have hf_21_v97 := (fl_n hu_na147 (by decide)).trans hf_21_v97
    have hf_17_v97 : na147 17 v97.toNatClampNeg = v132 := (by rw [hu_na147, va_up_s, pk_us])
    have hfs : FsI _ _ na147 := (by rw [hu_na147]; exact FsI.un hfs (by decide))
    have hfb : FrB (pf 13).toInt na ma na147 ma129 := (by rw [hu_na147]; exact FrB.un hfb (by omega) (by omega))
    refine lv_aload_n S.x S.b d_Mpg_conditioned_35 rfl (lv_at hl 1 rfl) ?_
    refine gP_18 S hT hw 0 rfl m10_3 d_Mpg_conditioned_36 ?_
    refine lv_iload_n S.x S.b d_Mpg_conditioned_39 rfl (lv_at hl 0 rfl) ?_
    refine lv_aload_n S.x S.b d_Mpg_conditioned_40 rfl (lv_at hl 1 rfl) ?_
    first | refine th_calli (ps0 := [wdP cs h r g tf ta pf na ma wa cf ca ef ea xf xa]) (pr := []) (pcs := [wdP cs h r g tf ta pf127 na147 ma129 wa130 cf ca ef ea xf xa]) (As := []) (rest := [.int v97, .ref (r 18)]) ((hLT.go (by omega)) h r g tf ta cf ca ef ea xf xa pf127 na147 ma129 wa130   (show 0 ≤ (pf127 11).toInt from (oz_5d987d7f9e e133 e112 g0 e100)) (show (pf127 11).toInt < (tf 6).toInt from e134) (show (tf 6).toInt ≤ 2049 from g2) (show 0 ≤ (pf127 12).toInt from (oz_18519da00e e138 e116 e101 g3)) (show (pf127 12).toInt ≤ 60 from (oz_1a76b13bbc e138 e116 e117)) (show 0 ≤ (pf127 13).toInt from (oz_3ff206910e e135 e118 e99 g5)) (show (pf127 13).toInt ≤ (pf127 11).toInt + 10 from (oz_71bf65dd77 e136 e112 e118 g6 e99 e100)) (show 0 ≤ (pf127 26).toInt from (oz_11e71ee49a e141 e121 e104 g7)) (show (pf127 26).toInt ≤ (pf127 12).toInt from (oz_2e44d917d0 e138 e141 e116 e121 e101 e104 g8)) (show 61 ≤ (pf127 12).toInt + ((lv - 1 : Nat) : Int) from by omega) (show lv - 1 ≤ 61 from by omega) hlf htk (FsI.le (N' := (pf127 13).toInt) hfs (by omega))) S hT hw (oX_call (P := (fun A U H => (oN A U H) ∧ (oP A g U H))) (pr := []) (oG_and oG_N oG_P) hw hA ⟨hN, hP⟩) (px_recv hT hw 0 0 rfl rfl rfl) m12_101 m12_98 m12_100 ms_10_10 m1_21 q_Mpg_statement ⟨show (8 * (lv - 1) + 28) + 1 ≤ (8 * lv + 26) from by omega, show 8 + (2 + 11) + (220 * (lv - 1) + 1280) ≤ (220 * lv + 1200) from by omega⟩ hl.1 rfl (Nat.le_of_ble_eq_true rfl) d_Mpg_conditioned_41 ⟨Nat.le_of_ble_eq_true rfl, Nat.le_of_ble_eq_true rfl⟩ hne hlk hA hAe (fun o t h => Or.inr h) ?_ (fun v157 p156 H locs hp156 hw => ?_) | (refine th_calli (ps0 := [wdP cs h r g tf ta pf na ma wa cf ca ef ea xf xa]) (pr := []) (pcs := [wdP cs h r g tf ta pf127 na147 ma129 wa130 cf ca ef ea xf xa]) (As := []) (rest := [.int v97, .ref (r 18)]) ((hLT.go (by omega)) h r g tf ta cf ca ef ea xf xa pf127 na147 ma129 wa130   (show 0 ≤ (pf127 11).toInt from by first | exact oz_5d987d7f9e e133 e112 g0 e100 | omega) (show (pf127 11).toInt < (tf 6).toInt from by first | exact e134 | omega) (show (tf 6).toInt ≤ 2049 from by first | exact g2 | omega) (show 0 ≤ (pf127 12).toInt from by first | exact oz_18519da00e e138 e116 e101 g3 | omega) (show (pf127 12).toInt ≤ 60 from by first | exact oz_1a76b13bbc e138 e116 e117 | omega) (show 0 ≤ (pf127 13).toInt from by first | exact oz_3ff206910e e135 e118 e99 g5 | omega) (show (pf127 13).toInt ≤ (pf127 11).toInt + 10 from by first | exact oz_71bf65dd77 e136 e112 e118 g6 e99 e100 | omega) (show 0 ≤ (pf127 26).toInt from by first | exact oz_11e71ee49a e141 e121 e104 g7 | omega) (show (pf127 26).toInt ≤ (pf127 12).toInt from by first | exact oz_2e44d917d0 e138 e141 e116 e121 e101 e104 g8 | omega) (show 61 ≤ (pf127 12).toInt + ((lv - 1 : Nat) : Int) from by omega) (show lv - 1 ≤ 61 from by omega) hlf htk (FsI.le (N' := (pf127 13).toInt) hfs (by omega))) S hT hw (oX_call (P := (fun A U H => (oN A U H) ∧ (oP A g U H))) (pr := []) (oG_and oG_N oG_P) hw hA ⟨hN, hP⟩) (px_recv hT hw 0 0 rfl rfl rfl) m12_101 m12_98 m12_100 ms_10_10 m1_21 q_Mpg_statement ⟨show (8 * (lv - 1) + 28) + 1 ≤ (8 * lv + 26) from by omega, show 8 + (2 + 11) + (220 * (lv - 1) + 1280) ≤ (220 * lv + 1200) from by omega⟩ hl.1 rfl (Nat.le_of_ble_eq_true rfl) d_Mpg_conditioned_41 ⟨Nat.le_of_ble_eq_true rfl, Nat.le_of_ble_eq_true rfl⟩ hne hlk hA hAe (fun o t h => Or.inr h) ?_ (fun v157 p156 H locs hp156 hw => ?_))
    · exact fun p1 H1 locs1 hp hw => by obtain ⟨pq1, pq2, pq3, pq4, rfl, hq1, hq2, hq3⟩ := hp; (first | exact ⟨_, ⟨pq1, pq2, pq3, pq4, rfl, hq1, hq2, (Or.inl (Or.inr ⟨nc1, pf93, na94, ma95, v97, e106, Or.inr ⟨pf109, e122, Or.inr ⟨pf127, na128, ma129, wa130, v132, e146, na147, hu_na147, Or.inl ⟨pq1, pq2, pq3, pq4, (up_RL_mp_statement (show 1 ≤ lv from (oz_6721671b0f g9 g4)) ▸ hq3), rfl, rfl, rfl, rfl, rfl, rfl⟩⟩⟩⟩))⟩, hw⟩ | (exact ⟨_, ⟨pq1, pq2, pq3, pq4, rfl, hq1, hq2, (Or.inl (Or.inr ⟨nc1, pf93, na94, ma95, v97, e106, Or.inr ⟨pf109, e122, Or.inr ⟨pf127, na128, ma129, wa130, v132, e146, na147, hu_na147, Or.inl ⟨pq1, pq2, pq3, pq4, (up_RL_mp_statement (show 1 ≤ lv from by first | exact oz_6721671b0f g9 g4 | omega) ▸ hq3), rfl, rfl, rfl, rfl, rfl, rfl⟩⟩⟩⟩))⟩, hw⟩))
    obtain ⟨pf152, na153, ma154, wa155, rfl, e158, e159, e160, e161, e162, e163, e164, e165, e166, e167, e168, e169, e170, e171⟩ := hp156
    have e158 : (pf127 11).toInt + 1 ≤ (pf152 11).toInt := e158
    have e159 : (pf152 11).toInt < (tf 6).toInt := e159
    have e160 : (pf127 13).toInt + 1 ≤ (pf152 13).toInt := e160
    have e161 : (pf152 13).toInt - (pf127 13).toInt ≤ (pf152 11).toInt - (pf127 11).toInt := e161
    have e162 : bp ta (pf127 11) + 1 ≤ bp ta (pf152 11) := e162
    have e163 : (pf152 12).toInt = (pf127 12).toInt := e163
    have e164 : (pf152 24).toInt = (pf127 24).toInt := e164
    have e165 : (pf152 25).toInt = (pf127 25).toInt := e165
    have e166 : (pf152 26).toInt = (pf127 26).toInt := e166
    have e167 : FrB (pf127 13).toInt na147 ma129 na153 ma154 := e167
    have ht_v132 := ht_v132.kp (FrB.le e167 (by omega)) (by omega)
    have hn_ht_v132 := ht_v132.num
    have hdq_v132 := dp_fb (x := v132) e167 (by omega) (by omega)
    have hf_14_v97 := (fb_n e167 (by omega) (by omega)).trans hf_14_v97
    have hf_15_v97 := (fb_n e167 (by omega) (by omega)).trans hf_15_v97
    have hf_17_v97 := (fb_n e167 (by omega) (by omega)).trans hf_17_v97
    have hf_18_v97 := (fb_m e167 (by omega) (by omega)).trans hf_18_v97
    have hf_19_v97 := (fb_m e167 (by omega) (by omega)).trans hf_19_v97
    have hf_21_v97 := (fb_n e167 (by omega) (by omega)).trans hf_21_v97
    have hfb := hfb.tr e167 (by omega)
    have e168 : FrW (pf127 26).toInt wa130 wa155 := e168
    have hfw := hfw.tr e168 (by omega)
    have e169 : VlS ta (tf 6).toInt na153 ma154 v157 (pf127 13).toInt (pf152 13).toInt (3 * (bp ta (pf152 11) - bp ta (pf127 11))) (200 - (pf127 12).toInt) := e169
    have hv_v157 := e169
    have hn_hv_v157 := hv_v157.num fs_ok
    have e170 : FsI (tf 6).toInt (pf152 13).toInt na153 := e170
    have hfs := e170
    have e171 : R_mp_statement (RL_mp_statement (lv - 1)) ta pf127 na147 ma129 wa130 pf152 na153 ma154 wa155 v157 0 := e171
    first | have e171L : (RL_mp_statement lv) ta pf127 na147 ma129 wa130 pf152 na153 ma154 wa155 v157 0 := up_RL_mp_statement (show 1 ≤ lv from (oz_6721671b0f g9 g4)) ▸ e171 | (have e171L : (RL_mp_statement lv) ta pf127 na147 ma129 wa130 pf152 na153 ma154 wa155 v157 0 := up_RL_mp_statement (show 1 ≤ lv from by first | exact oz_6721671b0f g9 g4 | omega) ▸ e171)
    have lv157 := Int32.le_toInt v157
    have uv157 := Int32.toInt_lt v157
    refine px_iast S hT hw 0 14 (n := 2100) (f := (ma154 18)) (x := v97) (y := v157) rfl gp_18 (vp_in_iff.mpr (by constructor <;> omega)) d_Mpg_conditioned_44 (w' := wdP cs h r g tf ta pf152 na153 (va_up ma154 18 (upd (ma154 18) v97.toNatClampNeg v157)) wa155 cf ca ef ea xf xa) (ps' := [wdP cs h r g tf ta pf152 na153 (va_up ma154 18 (upd (ma154 18) v97.toNatClampNeg v157)) wa155 cf ca ef ea xf xa]) sp_18 rfl (fun H locs hw => ?_)
    obtain ⟨ma172, hu_ma172⟩ : ∃ y : Nat → Nat → Int32, y = va_up ma154 18 (upd (ma154 18) v97.toNatClampNeg v157) := ⟨_, rfl⟩
    have hw : pw D A s.heap _ _ [wdP cs h r g tf ta pf152 na153 ma172 wa155 cf ca ef ea xf xa] := (by rw [hu_ma172]; exact hw)
    obtain ⟨ht_v132, hdq_v132⟩ := ht_v132.ag (ag_m hu_ma172 (by omega) (by omega)) (by omega)
    have hn_ht_v132 := ht_v132.num
    have hv_v157 := hv_v157.ag fs_ok (ag_m hu_ma172 (by omega) (by omega))
    have hf_19_v97 := (fl_n hu_ma172 (by decide)).trans hf_19_v97
    have hf_18_v97 : ma172 18 v97.toNatClampNeg = v157 := (by rw [hu_ma172, va_up_s, pk_us])
    have hfb : FrB (pf 13).toInt na ma na153 ma172 := (by rw [hu_ma172]; exact FrB.um hfb (by omega) (by omega))
    refine lv_iload_n S.x S.b d_Mpg_conditioned_45 rfl (lv_at hl 2 rfl) ?_
    refine lv_iconst (v := 4) S.x S.b d_Mpg_conditioned_46 (by decide) ?_
    refine lv_icmp_ne (tgt := 68) S.x S.b d_Mpg_conditioned_47 (by decide) (fun c173 => ?_) (fun c173 => ?_)
    · have nc173 : ¬ p0.toInt = (4 : Int) := mt (i_eq (x := p0) (y := 4)).mpr c173
      exfalso
      omega
    · have nc173 : p0.toInt = (4 : Int) := (i_eq (x := p0) (y := 4)).mp c173
      refine lv_aload_n S.x S.b d_Mpg_conditioned_50 rfl (lv_at hl 1 rfl) ?_
      refine lv_iconst (v := 5) S.x S.b d_Mpg_conditioned_51 (by decide) ?_
      first | refine px_calli (pr := []) (px_runV (As := [.int 5]) (rest := []) S (c_mp_takesKey l D cs h r g tf ta na153 ma172 wa155 cf ca ef ea xf xa pf152 5  (show 0 ≤ (pf152 11).toInt from (oz_abaa8eb164 e158 e133 g0 e100 e112)) (show (pf152 11).toInt < (tf 6).toInt from e159) (show (tf 6).toInt ≤ 2049 from g2) htk _) hT (pr := []) (pcs := [wdP cs h r g tf ta pf152 na153 ma172 wa155 cf ca ef ea xf xa]) hw px_X.tt (px_recv hT hw 0 0 rfl rfl rfl) m12_133 m12_130 m12_132 ms_11_2 m1_21 q_Mpg_takesKey ⟨show 1 + 1 ≤ (8 * lv + 26) from (oz_10629d6254), show 8 + (3 + 11) + 40 ≤ (220 * lv + 1200) from (oz_ceb0a10683)⟩ hl.1 rfl (Nat.le_of_ble_eq_true rfl) d_Mpg_conditioned_52 ⟨Nat.le_of_ble_eq_true rfl, Nat.le_of_ble_eq_true rfl⟩) hw hA (fun v178 p177 H locs hp177 hw => ?_) | (refine px_calli (pr := []) (px_runV (As := [.int 5]) (rest := []) S (c_mp_takesKey l D cs h r g tf ta na153 ma172 wa155 cf ca ef ea xf xa pf152 5  (show 0 ≤ (pf152 11).toInt from by first | exact oz_abaa8eb164 e158 e133 g0 e100 e112 | omega) (show (pf152 11).toInt < (tf 6).toInt from by first | exact e159 | omega) (show (tf 6).toInt ≤ 2049 from by first | exact g2 | omega) htk _) hT (pr := []) (pcs := [wdP cs h r g tf ta pf152 na153 ma172 wa155 cf ca ef ea xf xa]) hw px_X.tt (px_recv hT hw 0 0 rfl rfl rfl) m12_133 m12_130 m12_132 ms_11_2 m1_21 q_Mpg_takesKey ⟨show 1 + 1 ≤ (8 * lv + 26) from (by first | exact oz_10629d6254 | omega), show 8 + (3 + 11) + 40 ≤ (220 * lv + 1200) from (by first | exact oz_ceb0a10683 | omega)⟩ hl.1 rfl (Nat.le_of_ble_eq_true rfl) d_Mpg_conditioned_52 ⟨Nat.le_of_ble_eq_true rfl, Nat.le_of_ble_eq_true rfl⟩) hw hA (fun v178 p177 H locs hp177 hw => ?_))
      obtain ⟨pf176, rfl, e179, e180, e181, e182, e183, e184, e185, e186, e187, e188⟩ := hp177
      have e179 := z_rng e179
      have e180 : (pf176 11).toInt = (pf152 11).toInt + v178.toInt := e180
      have e181 : (pf176 11).toInt < (tf 6).toInt := e181
      have e182 : bp ta (pf152 11) + v178.toInt ≤ bp ta (pf176 11) := e182
      have e183 : (pf176 12).toInt = (pf152 12).toInt := e183
      have e184 : (pf176 13).toInt = (pf152 13).toInt := e184
      have e185 : (pf176 24).toInt = (pf152 24).toInt := e185
      have e186 : (pf176 25).toInt = (pf152 25).toInt := e186
      have e187 : (pf176 26).toInt = (pf152 26).toInt := e187
      have e188 : R_mp_takesKey ta (5 : Int32) pf152 pf176 v178 := e188
      have lv178 := Int32.le_toInt v178
      have uv178 := Int32.toInt_lt v178
      refine lv_if_eq (tgt := 68) S.x S.b d_Mpg_conditioned_55 (by decide) (fun c189 => ?_) (fun c189 => ?_)
      · have nc189 : v178.toInt = (0 : Int) := (i_eq (x := v178) (y := 0)).mp c189
        refine lv_aload_n S.x S.b d_Mpg_conditioned_68 rfl (lv_at hl 1 rfl) ?_
        refine lv_dup S.x S.b d_Mpg_conditioned_69 rfl ?_
        refine gP_12 (v := (pf176 12)) S hT hw 0 rfl rfl m9_236 d_Mpg_conditioned_70 ?_
        refine lv_iconst (v := 1) S.x S.b d_Mpg_conditioned_73 (by decide) ?_
        refine lv_isub S.x S.b d_Mpg_conditioned_74 ?_
        have lr191 := Int32.le_toInt (pf176 12)
        have ur191 := Int32.toInt_lt (pf176 12)
        refine lv_topi (fun z192 ez192 => ?_)
        have tz192 : z192.toInt = ((pf176 12).toInt - (1 : Int) + 2147483648) % 4294967296 - 2147483648 := by rw [ez192]; exact i_sub (pf176 12) 1
        have lz192 := Int32.le_toInt z192
        have uz192 := Int32.toInt_lt z192
        try replace tz192 : z192.toInt = (pf176 12).toInt - (1 : Int) := by omega
        refine pP_12 S hT hw 0 rfl m9_236 rfl rfl rfl d_Mpg_conditioned_75 (ps' := [wdP cs h r g tf ta (upd pf176 12 z192) na153 ma172 wa155 cf ca ef ea xf xa]) rfl (fun H locs hw => ?_)
        refine lv_iload_n S.x S.b d_Mpg_conditioned_78 rfl (lv_at hl 0 rfl) ?_
        first | exact th_iret (v := v97) S hr rfl hlk hAe hw (⟨(upd pf176 12 z192), na153, ma172, wa155, rfl, (show (pf 11).toInt + 1 ≤ (pf176 11).toInt from (oz_5f17c95f56 e100 e180 e112 e158 e179.1 e133)), (show (pf176 11).toInt < (tf 6).toInt from e181), (show (pf 13).toInt + 1 ≤ (pf176 13).toInt from (oz_e86c8ea46a e99 e184 e118 e160 e135)), (show (pf176 13).toInt - (pf 13).toInt ≤ (pf176 11).toInt - (pf 11).toInt from (oz_c9dc3cd592 e99 e100 e180 e184 e112 e118 e161 e179.1 e136)), (show bp ta (pf 11) + 1 ≤ bp ta (pf176 11) from (oz_f329b8fe74 qb1071 e182 e114 e162 e179.1 e115 e137)), (show z192.toInt = (pf 12).toInt from (oz_9150f5354a e101 tz192 e116 e183 e138 e163)), (show (pf176 24).toInt = (pf 24).toInt from (oz_0867352dd7 e102 e185 e119 e164 e139)), (show (pf176 25).toInt = (pf 25).toInt from (oz_0867352dd7 e103 e186 e120 e165 e140)), (show (pf176 26).toInt = (pf 26).toInt from (oz_0867352dd7 e104 e187 e121 e166 e141)), (show FrB (pf 13).toInt na ma na153 ma172 from hfb), (show FrW (pf 26).toInt wa wa155 from hfw), (show VlS ta (tf 6).toInt na153 ma172 v97 (pf 13).toInt (pf176 13).toInt (3 * (bp ta (pf176 11) - bp ta (pf 11))) (200 - (pf 12).toInt) from (VlV.le (st_if (hi := (pf176 13).toInt) (D := (199 - (pf 12).toInt)) ⟨by omega, hf_14_v97, hf_15_v97, ⟨by omega, by omega⟩, hf_21_v97⟩ (by decide) hf_17_v97 hf_18_v97 hf_19_v97 (by omega) (VlV.le (exr_vl ht_v132 (by omega)) (Int.le_refl _) (Int.le_refl _) (Int.le_refl _) (by omega)) (VlV.le hv_v157 (Int.le_refl _) (Int.le_refl _) (Int.le_refl _) (by omega)) (oz_n (lo := (pf176 13).toInt) (W := 0) (by decide) (by omega)) (fun h => absurd rfl h) (by omega) (by omega) (by omega) (by omega)) (by omega) (by omega) (by omega) (by omega))), (show FsI (tf 6).toInt (pf176 13).toInt na153 from (FsI.le hfs (by omega))), (show R_mp_conditioned (RL_mp_statement lv) ta p0 pf na ma wa (upd pf176 12 z192) na153 ma172 wa155 v97 0 from (Or.inl (Or.inr ⟨nc1, pf93, na94, ma95, v97, e106, Or.inr ⟨pf109, e122, Or.inr ⟨pf127, na128, ma129, wa130, v132, e146, na147, hu_na147, Or.inr ⟨pf152, na153, ma154, wa155, v157, e171L, ma172, hu_ma172, nc173, pf176, v178, e188, Or.inl ⟨nc189, z192, ez192, rfl, rfl, rfl, rfl, rfl, rfl⟩⟩⟩⟩⟩)))⟩) d_Mpg_conditioned_79 | (exact th_iret (v := v97) S hr rfl hlk hAe hw (⟨(upd pf176 12 z192), na153, ma172, wa155, rfl, (show (pf 11).toInt + 1 ≤ (pf176 11).toInt from by first | exact oz_5f17c95f56 e100 e180 e112 e158 e179.1 e133 | omega), (show (pf176 11).toInt < (tf 6).toInt from by first | exact e181 | omega), (show (pf 13).toInt + 1 ≤ (pf176 13).toInt from by first | exact oz_e86c8ea46a e99 e184 e118 e160 e135 | omega), (show (pf176 13).toInt - (pf 13).toInt ≤ (pf176 11).toInt - (pf 11).toInt from by first | exact oz_c9dc3cd592 e99 e100 e180 e184 e112 e118 e161 e179.1 e136 | omega), (show bp ta (pf 11) + 1 ≤ bp ta (pf176 11) from by first | exact oz_f329b8fe74 qb1071 e182 e114 e162 e179.1 e115 e137 | omega), (show z192.toInt = (pf 12).toInt from by first | exact oz_9150f5354a e101 tz192 e116 e183 e138 e163 | omega), (show (pf176 24).toInt = (pf 24).toInt from by first | exact oz_0867352dd7 e102 e185 e119 e164 e139 | omega), (show (pf176 25).toInt = (pf 25).toInt from by first | exact oz_0867352dd7 e103 e186 e120 e165 e140 | omega), (show (pf176 26).toInt = (pf 26).toInt from by first | exact oz_0867352dd7 e104 e187 e121 e166 e141 | omega), (show FrB (pf 13).toInt na ma na153 ma172 from hfb), (show FrW (pf 26).toInt wa wa155 from hfw), (show VlS ta (tf 6).toInt na153 ma172 v97 (pf 13).toInt (pf176 13).toInt (3 * (bp ta (pf176 11) - bp ta (pf 11))) (200 - (pf 12).toInt) from (VlV.le (st_if (hi := (pf176 13).toInt) (D := (199 - (pf 12).toInt)) ⟨by omega, hf_14_v97, hf_15_v97, ⟨by omega, by omega⟩, hf_21_v97⟩ (by decide) hf_17_v97 hf_18_v97 hf_19_v97 (by omega) (VlV.le (exr_vl ht_v132 (by omega)) (Int.le_refl _) (Int.le_refl _) (Int.le_refl _) (by omega)) (VlV.le hv_v157 (Int.le_refl _) (Int.le_refl _) (Int.le_refl _) (by omega)) (oz_n (lo := (pf176 13).toInt) (W := 0) (by decide) (by omega)) (fun h => absurd rfl h) (by omega) (by omega) (by omega) (by omega)) (by omega) (by omega) (by omega) (by omega))), (show FsI (tf 6).toInt (pf176 13).toInt na153 from (FsI.le hfs (by omega))), (show R_mp_conditioned (RL_mp_statement lv) ta p0 pf na ma wa (upd pf176 12 z192) na153 ma172 wa155 v97 0 from (Or.inl (Or.inr ⟨nc1, pf93, na94, ma95, v97, e106, Or.inr ⟨pf109, e122, Or.inr ⟨pf127, na128, ma129, wa130, v132, e146, na147, hu_na147, Or.inr ⟨pf152, na153, ma154, wa155, v157, e171L, ma172, hu_ma172, nc173, pf176, v178, e188, Or.inl ⟨nc189, z192, ez192, rfl, rfl, rfl, rfl, rfl, rfl⟩⟩⟩⟩⟩)))⟩) d_Mpg_conditioned_79)
      · have nc189 : ¬ v178.toInt = (0 : Int) := mt (i_eq (x := v178) (y := 0)).mpr c189
        refine lv_aload_n S.x S.b d_Mpg_conditioned_58 rfl (lv_at hl 1 rfl) ?_
        refine gP_19 S hT hw 0 rfl m10_5 d_Mpg_conditioned_59 ?_
        refine lv_iload_n S.x S.b d_Mpg_conditioned_62 rfl (lv_at hl 0 rfl) ?_
        refine lv_aload_n S.x S.b d_Mpg_conditioned_63 rfl (lv_at hl 1 rfl) ?_
        first | refine th_calli (ps0 := [wdP cs h r g tf ta pf na ma wa cf ca ef ea xf xa]) (pr := []) (pcs := [wdP cs h r g tf ta pf176 na153 ma172 wa155 cf ca ef ea xf xa]) (As := []) (rest := [.int v97, .ref (r 19)]) ((hLT.go (by omega)) h r g tf ta cf ca ef ea xf xa pf176 na153 ma172 wa155   (show 0 ≤ (pf176 11).toInt from (oz_719dfece60 e180 e158 e179.1 g0 e100 e112 e133)) (show (pf176 11).toInt < (tf 6).toInt from e181) (show (tf 6).toInt ≤ 2049 from g2) (show 0 ≤ (pf176 12).toInt from (oz_1a41beca24 e183 e163 e138 e116 e101 g8 g7)) (show (pf176 12).toInt ≤ 60 from (oz_7382568b78 e183 e163 e138 e116 e117)) (show 0 ≤ (pf176 13).toInt from (oz_571e5ef8c2 e184 e160 e135 e118 e99 g5)) (show (pf176 13).toInt ≤ (pf176 11).toInt + 10 from (oz_6c72f0f831 e180 e184 e161 e179.1 g6 e100 e112 e136 e99 e118)) (show 0 ≤ (pf176 26).toInt from (oz_6003ce2c41 e187 e166 e141 e121 e104 g7)) (show (pf176 26).toInt ≤ (pf176 12).toInt from (oz_492d0f64aa e183 e187 e163 e166 e138 e141 e116 e121 e101 e104 g8)) (show 61 ≤ (pf176 12).toInt + ((lv - 1 : Nat) : Int) from by omega) (show lv - 1 ≤ 61 from by omega) hlf htk (FsI.le (N' := (pf176 13).toInt) hfs (by omega))) S hT hw (oX_call (P := (fun A U H => (oN A U H) ∧ (oP A g U H))) (pr := []) (oG_and oG_N oG_P) hw hA ⟨hN, hP⟩) (px_recv hT hw 0 0 rfl rfl rfl) m12_101 m12_98 m12_100 ms_10_10 m1_21 q_Mpg_statement ⟨show (8 * (lv - 1) + 28) + 1 ≤ (8 * lv + 26) from by omega, show 8 + (2 + 11) + (220 * (lv - 1) + 1280) ≤ (220 * lv + 1200) from by omega⟩ hl.1 rfl (Nat.le_of_ble_eq_true rfl) d_Mpg_conditioned_64 ⟨Nat.le_of_ble_eq_true rfl, Nat.le_of_ble_eq_true rfl⟩ hne hlk hA hAe (fun o t h => Or.inr h) ?_ (fun v202 p201 H locs hp201 hw => ?_) | (refine th_calli (ps0 := [wdP cs h r g tf ta pf na ma wa cf ca ef ea xf xa]) (pr := []) (pcs := [wdP cs h r g tf ta pf176 na153 ma172 wa155 cf ca ef ea xf xa]) (As := []) (rest := [.int v97, .ref (r 19)]) ((hLT.go (by omega)) h r g tf ta cf ca ef ea xf xa pf176 na153 ma172 wa155   (show 0 ≤ (pf176 11).toInt from by first | exact oz_719dfece60 e180 e158 e179.1 g0 e100 e112 e133 | omega) (show (pf176 11).toInt < (tf 6).toInt from by first | exact e181 | omega) (show (tf 6).toInt ≤ 2049 from by first | exact g2 | omega) (show 0 ≤ (pf176 12).toInt from by first | exact oz_1a41beca24 e183 e163 e138 e116 e101 g8 g7 | omega) (show (pf176 12).toInt ≤ 60 from by first | exact oz_7382568b78 e183 e163 e138 e116 e117 | omega) (show 0 ≤ (pf176 13).toInt from by first | exact oz_571e5ef8c2 e184 e160 e135 e118 e99 g5 | omega) (show (pf176 13).toInt ≤ (pf176 11).toInt + 10 from by first | exact oz_6c72f0f831 e180 e184 e161 e179.1 g6 e100 e112 e136 e99 e118 | omega) (show 0 ≤ (pf176 26).toInt from by first | exact oz_6003ce2c41 e187 e166 e141 e121 e104 g7 | omega) (show (pf176 26).toInt ≤ (pf176 12).toInt from by first | exact oz_492d0f64aa e183 e187 e163 e166 e138 e141 e116 e121 e101 e104 g8 | omega) (show 61 ≤ (pf176 12).toInt + ((lv - 1 : Nat) : Int) from by omega) (show lv - 1 ≤ 61 from by omega) hlf htk (FsI.le (N' := (pf176 13).toInt) hfs (by omega))) S hT hw (oX_call (P := (fun A U H => (oN A U H) ∧ (oP A g U H))) (pr := []) (oG_and oG_N oG_P) hw hA ⟨hN, hP⟩) (px_recv hT hw 0 0 rfl rfl rfl) m12_101 m12_98 m12_100 ms_10_10 m1_21 q_Mpg_statement ⟨show (8 * (lv - 1) + 28) + 1 ≤ (8 * lv + 26) from by omega, show 8 + (2 + 11) + (220 * (lv - 1) + 1280) ≤ (220 * lv + 1200) from by omega⟩ hl.1 rfl (Nat.le_of_ble_eq_true rfl) d_Mpg_conditioned_64 ⟨Nat.le_of_ble_eq_true rfl, Nat.le_of_ble_eq_true rfl⟩ hne hlk hA hAe (fun o t h => Or.inr h) ?_ (fun v202 p201 H locs hp201 hw => ?_))
        · exact fun p1 H1 locs1 hp hw => by obtain ⟨pq1, pq2, pq3, pq4, rfl, hq1, hq2, hq3⟩ := hp; (first | exact ⟨_, ⟨pq1, pq2, pq3, pq4, rfl, hq1, hq2, (Or.inl (Or.inr ⟨nc1, pf93, na94, ma95, v97, e106, Or.inr ⟨pf109, e122, Or.inr ⟨pf127, na128, ma129, wa130, v132, e146, na147, hu_na147, Or.inr ⟨pf152, na153, ma154, wa155, v157, e171L, ma172, hu_ma172, nc173, pf176, v178, e188, Or.inr ⟨nc189, Or.inl ⟨pq1, pq2, pq3, pq4, (up_RL_mp_statement (show 1 ≤ lv from (oz_6721671b0f g9 g4)) ▸ hq3), rfl, rfl, rfl, rfl, rfl, rfl⟩⟩⟩⟩⟩⟩))⟩, hw⟩ | (exact ⟨_, ⟨pq1, pq2, pq3, pq4, rfl, hq1, hq2, (Or.inl (Or.inr ⟨nc1, pf93, na94, ma95, v97, e106, Or.inr ⟨pf109, e122, Or.inr ⟨pf127, na128, ma129, wa130, v132, e146, na147, hu_na147, Or.inr ⟨pf152, na153, ma154, wa155, v157, e171L, ma172, hu_ma172, nc173, pf176, v178, e188, Or.inr ⟨nc189, Or.inl ⟨pq1, pq2, pq3, pq4, (up_RL_mp_statement (show 1 ≤ lv from by first | exact oz_6721671b0f g9 g4 | omega) ▸ hq3), rfl, rfl, rfl, rfl, rfl, rfl⟩⟩⟩⟩⟩⟩))⟩, hw⟩))
        obtain ⟨pf197, na198, ma199, wa200, rfl, e203, e204, e205, e206, e207, e208, e209, e210, e211, e212, e213, e214, e215, e216⟩ := hp201
        have e203 : (pf176 11).toInt + 1 ≤ (pf197 11).toInt := e203
        have e204 : (pf197 11).toInt < (tf 6).toInt := e204
        have e205 : (pf176 13).toInt + 1 ≤ (pf197 13).toInt := e205
        have e206 : (pf197 13).toInt - (pf176 13).toInt ≤ (pf197 11).toInt - (pf176 11).toInt := e206
        have e207 : bp ta (pf176 11) + 1 ≤ bp ta (pf197 11) := e207
        have e208 : (pf197 12).toInt = (pf176 12).toInt := e208
        have e209 : (pf197 24).toInt = (pf176 24).toInt := e209
        have e210 : (pf197 25).toInt = (pf176 25).toInt := e210
        have e211 : (pf197 26).toInt = (pf176 26).toInt := e211
        have e212 : FrB (pf176 13).toInt na153 ma172 na198 ma199 := e212
        have ht_v132 := ht_v132.kp (FrB.le e212 (by omega)) (by omega)
        have hn_ht_v132 := ht_v132.num
        have hdq_v132 := dp_fb (x := v132) e212 (by omega) (by omega)
        have hf_14_v97 := (fb_n e212 (by omega) (by omega)).trans hf_14_v97
        have hf_15_v97 := (fb_n e212 (by omega) (by omega)).trans hf_15_v97
        have hf_17_v97 := (fb_n e212 (by omega) (by omega)).trans hf_17_v97
        have hf_18_v97 := (fb_m e212 (by omega) (by omega)).trans hf_18_v97
        have hf_19_v97 := (fb_m e212 (by omega) (by omega)).trans hf_19_v97
        have hf_21_v97 := (fb_n e212 (by omega) (by omega)).trans hf_21_v97
        have hv_v157 := hv_v157.ag fs_ok (FrB.ag e212 (by omega))
        have hfb := hfb.tr e212 (by omega)
        have e213 : FrW (pf176 26).toInt wa155 wa200 := e213
        have hfw := hfw.tr e213 (by omega)
        have e214 : VlS ta (tf 6).toInt na198 ma199 v202 (pf176 13).toInt (pf197 13).toInt (3 * (bp ta (pf197 11) - bp ta (pf176 11))) (200 - (pf176 12).toInt) := e214
        have hv_v202 := e214
        have hn_hv_v202 := hv_v202.num fs_ok
        have e215 : FsI (tf 6).toInt (pf197 13).toInt na198 := e215
        have hfs := e215
        have e216 : R_mp_statement (RL_mp_statement (lv - 1)) ta pf176 na153 ma172 wa155 pf197 na198 ma199 wa200 v202 0 := e216
        first | have e216L : (RL_mp_statement lv) ta pf176 na153 ma172 wa155 pf197 na198 ma199 wa200 v202 0 := up_RL_mp_statement (show 1 ≤ lv from (oz_6721671b0f g9 g4)) ▸ e216 | (have e216L : (RL_mp_statement lv) ta pf176 na153 ma172 wa155 pf197 na198 ma199 wa200 v202 0 := up_RL_mp_statement (show 1 ≤ lv from by first | exact oz_6721671b0f g9 g4 | omega) ▸ e216)
        have lv202 := Int32.le_toInt v202
        have uv202 := Int32.toInt_lt v202
        refine px_iast S hT hw 0 15 (n := 2100) (f := (ma199 19)) (x := v97) (y := v202) rfl gp_19 (vp_in_iff.mpr (by constructor <;> omega)) d_Mpg_conditioned_67 (w' := wdP cs h r g tf ta pf197 na198 (va_up ma199 19 (upd (ma199 19) v97.toNatClampNeg v202)) wa200 cf ca ef ea xf xa) (ps' := [wdP cs h r g tf ta pf197 na198 (va_up ma199 19 (upd (ma199 19) v97.toNatClampNeg v202)) wa200 cf ca ef ea xf xa]) sp_19 rfl (fun H locs hw => ?_)
        obtain ⟨ma217, hu_ma217⟩ : ∃ y : Nat → Nat → Int32, y = va_up ma199 19 (upd (ma199 19) v97.toNatClampNeg v202) := ⟨_, rfl⟩
        have hw : pw D A s.heap _ _ [wdP cs h r g tf ta pf197 na198 ma217 wa200 cf ca ef ea xf xa] := (by rw [hu_ma217]; exact hw)
        obtain ⟨ht_v132, hdq_v132⟩ := ht_v132.ag (ag_m hu_ma217 (by omega) (by omega)) (by omega)
        have hn_ht_v132 := ht_v132.num
        have hv_v157 := hv_v157.ag fs_ok (ag_m hu_ma217 (by omega) (by omega))
        have hv_v202 := hv_v202.ag fs_ok (ag_m hu_ma217 (by omega) (by omega))
        have hf_18_v97 := (fl_n hu_ma217 (by decide)).trans hf_18_v97
        have hf_19_v97 : ma217 19 v97.toNatClampNeg = v202 := (by rw [hu_ma217, va_up_s, pk_us])
        have hfb : FrB (pf 13).toInt na ma na198 ma217 := (by rw [hu_ma217]; exact FrB.um hfb (by omega) (by omega))
        refine lv_aload_n S.x S.b d_Mpg_conditioned_68 rfl (lv_at hl 1 rfl) ?_
        refine lv_dup S.x S.b d_Mpg_conditioned_69 rfl ?_
        refine gP_12 (v := (pf197 12)) S hT hw 0 rfl rfl m9_236 d_Mpg_conditioned_70 ?_
        refine lv_iconst (v := 1) S.x S.b d_Mpg_conditioned_73 (by decide) ?_
        refine lv_isub S.x S.b d_Mpg_conditioned_74 ?_
        have lr218 := Int32.le_toInt (pf197 12)
        have ur218 := Int32.toInt_lt (pf197 12)
        refine lv_topi (fun z219 ez219 => ?_)
        have tz219 : z219.toInt = ((pf197 12).toInt - (1 : Int) + 2147483648) % 4294967296 - 2147483648 := by rw [ez219]; exact i_sub (pf197 12) 1
        have lz219 := Int32.le_toInt z219
        have uz219 := Int32.toInt_lt z219
        try replace tz219 : z219.toInt = (pf197 12).toInt - (1 : Int) := by omega
        refine pP_12 S hT hw 0 rfl m9_236 rfl rfl rfl d_Mpg_conditioned_75 (ps' := [wdP cs h r g tf ta (upd pf197 12 z219) na198 ma217 wa200 cf ca ef ea xf xa]) rfl (fun H locs hw => ?_)
        refine lv_iload_n S.x S.b d_Mpg_conditioned_78 rfl (lv_at hl 0 rfl) ?_
        first | exact th_iret (v := v97) S hr rfl hlk hAe hw (⟨(upd pf197 12 z219), na198, ma217, wa200, rfl, (show (pf 11).toInt + 1 ≤ (pf197 11).toInt from (oz_535e69da1d e100 e203 e112 e180 e133 e158 e179.1)), (show (pf197 11).toInt < (tf 6).toInt from e204), (show (pf 13).toInt + 1 ≤ (pf197 13).toInt from (oz_e191051be6 e99 e205 e118 e184 e135 e160)), (show (pf197 13).toInt - (pf 13).toInt ≤ (pf197 11).toInt - (pf 11).toInt from (oz_ab815a9d62 e99 e100 e206 e112 e118 e180 e184 e136 e161 e179.1)), (show bp ta (pf 11) + 1 ≤ bp ta (pf197 11) from (oz_b1489df459 qb1071 e207 e114 e182 e115 e137 e162 e179.1)), (show z219.toInt = (pf 12).toInt from (oz_f3d5d0e710 e101 tz219 e116 e208 e138 e183 e163)), (show (pf197 24).toInt = (pf 24).toInt from (oz_a783471c71 e102 e209 e119 e185 e139 e164)), (show (pf197 25).toInt = (pf 25).toInt from (oz_a783471c71 e103 e210 e120 e186 e140 e165)), (show (pf197 26).toInt = (pf 26).toInt from (oz_a783471c71 e104 e211 e121 e187 e141 e166)), (show FrB (pf 13).toInt na ma na198 ma217 from hfb), (show FrW (pf 26).toInt wa wa200 from hfw), (show VlS ta (tf 6).toInt na198 ma217 v97 (pf 13).toInt (pf197 13).toInt (3 * (bp ta (pf197 11) - bp ta (pf 11))) (200 - (pf 12).toInt) from (VlV.le (st_if (hi := (pf197 13).toInt) (D := (199 - (pf 12).toInt)) ⟨by omega, hf_14_v97, hf_15_v97, ⟨by omega, by omega⟩, hf_21_v97⟩ (by decide) hf_17_v97 hf_18_v97 hf_19_v97 (by omega) (VlV.le (exr_vl ht_v132 (by omega)) (Int.le_refl _) (Int.le_refl _) (Int.le_refl _) (by omega)) (VlV.le hv_v157 (Int.le_refl _) (Int.le_refl _) (Int.le_refl _) (by omega)) (oz_v fs_ok (VlV.le hv_v202 (Int.le_refl _) (by omega) (Int.le_refl _) (by omega))) (fun h => absurd rfl h) (by omega) (by omega) (by omega) (by omega)) (by omega) (by omega) (by omega) (by omega))), (show FsI (tf 6).toInt (pf197 13).toInt na198 from (FsI.le hfs (by omega))), (show R_mp_conditioned (RL_mp_statement lv) ta p0 pf na ma wa (upd pf197 12 z219) na198 ma217 wa200 v97 0 from (Or.inl (Or.inr ⟨nc1, pf93, na94, ma95, v97, e106, Or.inr ⟨pf109, e122, Or.inr ⟨pf127, na128, ma129, wa130, v132, e146, na147, hu_na147, Or.inr ⟨pf152, na153, ma154, wa155, v157, e171L, ma172, hu_ma172, nc173, pf176, v178, e188, Or.inr ⟨nc189, Or.inr ⟨pf197, na198, ma199, wa200, v202, e216L, ma217, hu_ma217, z219, ez219, rfl, rfl, rfl, rfl, rfl, rfl⟩⟩⟩⟩⟩⟩)))⟩) d_Mpg_conditioned_79 | (exact th_iret (v := v97) S hr rfl hlk hAe hw (⟨(upd pf197 12 z219), na198, ma217, wa200, rfl, (show (pf 11).toInt + 1 ≤ (pf197 11).toInt from by first | exact oz_535e69da1d e100 e203 e112 e180 e133 e158 e179.1 | omega), (show (pf197 11).toInt < (tf 6).toInt from by first | exact e204 | omega), (show (pf 13).toInt + 1 ≤ (pf197 13).toInt from by first | exact oz_e191051be6 e99 e205 e118 e184 e135 e160 | omega), (show (pf197 13).toInt - (pf 13).toInt ≤ (pf197 11).toInt - (pf 11).toInt from by first | exact oz_ab815a9d62 e99 e100 e206 e112 e118 e180 e184 e136 e161 e179.1 | omega), (show bp ta (pf 11) + 1 ≤ bp ta (pf197 11) from by first | exact oz_b1489df459 qb1071 e207 e114 e182 e115 e137 e162 e179.1 | omega), (show z219.toInt = (pf 12).toInt from by first | exact oz_f3d5d0e710 e101 tz219 e116 e208 e138 e183 e163 | omega), (show (pf197 24).toInt = (pf 24).toInt from by first | exact oz_a783471c71 e102 e209 e119 e185 e139 e164 | omega), (show (pf197 25).toInt = (pf 25).toInt from by first | exact oz_a783471c71 e103 e210 e120 e186 e140 e165 | omega), (show (pf197 26).toInt = (pf 26).toInt from by first | exact oz_a783471c71 e104 e211 e121 e187 e141 e166 | omega), (show FrB (pf 13).toInt na ma na198 ma217 from hfb), (show FrW (pf 26).toInt wa wa200 from hfw), (show VlS ta (tf 6).toInt na198 ma217 v97 (pf 13).toInt (pf197 13).toInt (3 * (bp ta (pf197 11) - bp ta (pf 11))) (200 - (pf 12).toInt) from (VlV.le (st_if (hi := (pf197 13).toInt) (D := (199 - (pf 12).toInt)) ⟨by omega, hf_14_v97, hf_15_v97, ⟨by omega, by omega⟩, hf_21_v97⟩ (by decide) hf_17_v97 hf_18_v97 hf_19_v97 (by omega) (VlV.le (exr_vl ht_v132 (by omega)) (Int.le_refl _) (Int.le_refl _) (Int.le_refl _) (by omega)) (VlV.le hv_v157 (Int.le_refl _) (Int.le_refl _) (Int.le_refl _) (by omega)) (oz_v fs_ok (VlV.le hv_v202 (Int.le_refl _) (by omega) (Int.le_refl _) (by omega))) (fun h => absurd rfl h) (by omega) (by omega) (by omega) (by omega)) (by omega) (by omega) (by omega) (by omega))), (show FsI (tf 6).toInt (pf197 13).toInt na198 from (FsI.le hfs (by omega))), (show R_mp_conditioned (RL_mp_statement lv) ta p0 pf na ma wa (upd pf197 12 z219) na198 ma217 wa200 v97 0 from (Or.inl (Or.inr ⟨nc1, pf93, na94, ma95, v97, e106, Or.inr ⟨pf109, e122, Or.inr ⟨pf127, na128, ma129, wa130, v132, e146, na147, hu_na147, Or.inr ⟨pf152, na153, ma154, wa155, v157, e171L, ma172, hu_ma172, nc173, pf176, v178, e188, Or.inr ⟨nc189, Or.inr ⟨pf197, na198, ma199, wa200, v202, e216L, ma217, hu_ma217, z219, ez219, rfl, rfl, rfl, rfl, rfl, rfl⟩⟩⟩⟩⟩⟩)))⟩) d_Mpg_conditioned_79)
abbrev b_Mpg_doing : ByteArray := prog_16_method_54_code
def y_Mpg_doing : MethodName := ⟨"HomeSystemModel$Program", "doing", "()I"⟩
theorem d_Mpg_doing_0 : decode b_Mpg_doing 0 = .ok (.aload_n 0, 1) := by decide +kernel
theorem d_Mpg_doing_1 : decode b_Mpg_doing 1 = .ok (.bipush 26, 2) := by decide +kernel
theorem d_Mpg_doing_3 : decode b_Mpg_doing 3 = .ok (.aload_n 0, 1) := by decide +kernel
theorem d_Mpg_doing_4 : decode b_Mpg_doing 4 = .ok (.getfield 360, 3) := by decide +kernel
theorem d_Mpg_doing_7 : decode b_Mpg_doing 7 = .ok (.invokevirtual 406, 3) := by decide +kernel
theorem d_Mpg_doing_10 : decode b_Mpg_doing 10 = .ok (.istore_n 1, 1) := by decide +kernel
theorem d_Mpg_doing_11 : decode b_Mpg_doing 11 = .ok (.aload_n 0, 1) := by decide +kernel
theorem d_Mpg_doing_12 : decode b_Mpg_doing 12 = .ok (.invokevirtual 383, 3) := by decide +kernel
theorem d_Mpg_doing_15 : decode b_Mpg_doing 15 = .ok (.aload_n 0, 1) := by decide +kernel
theorem d_Mpg_doing_16 : decode b_Mpg_doing 16 = .ok (.getfield 219, 3) := by decide +kernel
theorem d_Mpg_doing_19 : decode b_Mpg_doing 19 = .ok (.iload_n 1, 1) := by decide +kernel
theorem d_Mpg_doing_20 : decode b_Mpg_doing 20 = .ok (.aload_n 0, 1) := by decide +kernel
theorem d_Mpg_doing_21 : decode b_Mpg_doing 21 = .ok (.invokevirtual 463, 3) := by decide +kernel
theorem d_Mpg_doing_24 : decode b_Mpg_doing 24 = .ok (.iastore, 1) := by decide +kernel
theorem d_Mpg_doing_25 : decode b_Mpg_doing 25 = .ok (.aload_n 0, 1) := by decide +kernel
theorem d_Mpg_doing_26 : decode b_Mpg_doing 26 = .ok (.aload_n 0, 1) := by decide +kernel
theorem d_Mpg_doing_27 : decode b_Mpg_doing 27 = .ok (.bipush 6, 2) := by decide +kernel
theorem d_Mpg_doing_29 : decode b_Mpg_doing 29 = .ok (.invokevirtual 497, 3) := by decide +kernel
theorem d_Mpg_doing_32 : decode b_Mpg_doing 32 = .ok (.invokevirtual 373, 3) := by decide +kernel
theorem d_Mpg_doing_35 : decode b_Mpg_doing 35 = .ok (.aload_n 0, 1) := by decide +kernel
theorem d_Mpg_doing_36 : decode b_Mpg_doing 36 = .ok (.getfield 216, 3) := by decide +kernel
theorem d_Mpg_doing_39 : decode b_Mpg_doing 39 = .ok (.iload_n 1, 1) := by decide +kernel
theorem d_Mpg_doing_40 : decode b_Mpg_doing 40 = .ok (.aload_n 0, 1) := by decide +kernel
theorem d_Mpg_doing_41 : decode b_Mpg_doing 41 = .ok (.invokevirtual 494, 3) := by decide +kernel
theorem d_Mpg_doing_44 : decode b_Mpg_doing 44 = .ok (.iastore, 1) := by decide +kernel
theorem d_Mpg_doing_45 : decode b_Mpg_doing 45 = .ok (.aload_n 0, 1) := by decide +kernel
theorem d_Mpg_doing_46 : decode b_Mpg_doing 46 = .ok (.ldc 101, 2) := by decide +kernel
theorem d_Mpg_doing_48 : decode b_Mpg_doing 48 = .ok (.invokevirtual 386, 3) := by decide +kernel
theorem d_Mpg_doing_51 : decode b_Mpg_doing 51 = .ok (.aload_n 0, 1) := by decide +kernel
theorem d_Mpg_doing_52 : decode b_Mpg_doing 52 = .ok (.dup, 1) := by decide +kernel
theorem d_Mpg_doing_53 : decode b_Mpg_doing 53 = .ok (.getfield 380, 3) := by decide +kernel
theorem d_Mpg_doing_56 : decode b_Mpg_doing 56 = .ok (.iconst 1, 1) := by decide +kernel
theorem d_Mpg_doing_57 : decode b_Mpg_doing 57 = .ok (.isub, 1) := by decide +kernel
theorem d_Mpg_doing_58 : decode b_Mpg_doing 58 = .ok (.putfield 380, 3) := by decide +kernel
theorem d_Mpg_doing_61 : decode b_Mpg_doing 61 = .ok (.iload_n 1, 1) := by decide +kernel
theorem d_Mpg_doing_62 : decode b_Mpg_doing 62 = .ok (.ireturn, 1) := by decide +kernel
theorem q_Mpg_doing : px_y y_Mpg_doing 0 := by unfold px_y; decide +kernel
set_option maxHeartbeats 4000000 in
set_option maxRecDepth 100000 in
theorem c_mp_doing (l : Launch) (D : va_G) (cs : Nat → ClassId) (h : Nat) (r : Nat → Nat) (g : Nat → Nat → Option Nat) (tf : Nat → Int32) (ta : Nat → Nat → Int32) (cf : Nat → Int32) (ca : Nat → Nat → Int32) (ef : Nat → Int32) (ea : Nat → Nat → Int32) (xf : Nat → Int32) (xa : Nat → Nat → Int32) (pf : Nat → Int32) (na : Nat → Nat → Int32) (ma : Nat → Nat → Int32) (wa : Nat → Nat → Int32) (lv : Nat) (g0 : 0 ≤ (pf 11).toInt) (g1 : (pf 11).toInt < (tf 6).toInt) (g2 : (tf 6).toInt ≤ 2049) (g3 : 0 ≤ (pf 12).toInt) (g4 : (pf 12).toInt ≤ 60) (g5 : 0 ≤ (pf 13).toInt) (g6 : (pf 13).toInt ≤ (pf 11).toInt + 10) (g7 : 0 ≤ (pf 26).toInt) (g8 : (pf 26).toInt ≤ (pf 12).toInt) (g9 : 61 ≤ (pf 12).toInt + (lv : Int)) (g10 : lv ≤ 61) (g11 : (pf 11).toInt + 1 < (tf 6).toInt) (hlf : l.flags = pinnedFlags ++ [noTraceFlag]) (htk : TkI tf ta) (hfs : FsI (tf 6).toInt (pf 13).toInt na) (hLT : LvT l D cs lv) : ThI l y_Mpg_doing b_Mpg_doing 2 (.int) D cs (8 * lv + 26) (220 * lv + 1200) [.ref h] [wdP cs h r g tf ta pf na ma wa cf ca ef ea xf xa] (oX (fun A U H => (oN A U H) ∧ (oP A g U H)) [wdP cs h r g tf ta pf na ma wa cf ca ef ea xf xa]) "java/lang/IllegalArgumentException" (fun v ps => ∃ (pf' : Nat → Int32) (na' : Nat → Nat → Int32) (ma' : Nat → Nat → Int32) (wa' : Nat → Nat → Int32), (ps = [wdP cs h r g tf ta pf' na' ma' wa' cf ca ef ea xf xa]) ∧ ((pf 11).toInt + 1 ≤ (pf' 11).toInt) ∧ ((pf' 11).toInt < (tf 6).toInt) ∧ ((pf 13).toInt + 1 ≤ (pf' 13).toInt) ∧ ((pf' 13).toInt - (pf 13).toInt ≤ (pf' 11).toInt - (pf 11).toInt) ∧ (bp ta (pf 11) + 1 ≤ bp ta (pf' 11)) ∧ ((pf' 12).toInt = (pf 12).toInt) ∧ ((pf' 24).toInt = (pf 24).toInt) ∧ ((pf' 25).toInt = (pf 25).toInt) ∧ ((pf' 26).toInt = (pf 26).toInt) ∧ (FrB (pf 13).toInt na ma na' ma') ∧ (FrW (pf 26).toInt wa wa') ∧ (VlS ta (tf 6).toInt na' ma' v (pf 13).toInt (pf' 13).toInt (3 * (bp ta (pf' 11) - bp ta (pf 11))) (200 - (pf 12).toInt)) ∧ (FsI (tf 6).toInt (pf' 13).toInt na') ∧ (R_mp_doing (RL_mp_statement lv) ta pf na ma wa pf' na' ma' wa' v 0)) (fun ps => ∃ (pf' : Nat → Int32) (na' : Nat → Nat → Int32) (ma' : Nat → Nat → Int32) (wa' : Nat → Nat → Int32), ps = [wdP cs h r g tf ta pf' na' ma' wa' cf ca ef ea xf xa] ∧ 0 ≤ (pf' 11).toInt ∧ (pf' 11).toInt + 1 ≤ (tf 6).toInt ∧ R_mp_doing (RL_mp_statement lv) ta pf na ma wa pf' na' ma' wa' 0 1) := by
  refine th_enter (by decide) (Nat.le_of_ble_eq_true rfl) ?_
  intro p e s m below meth c A ls hAe S hr hlk hnm hA hT hX hw hl hne hadm
  have hl : lv_has ls 2 [(0, .ref h)] := hl
  have cst1 : (1 : Int32).toInt = 1 := rfl
  have cst6 : (6 : Int32).toInt = 6 := rfl
  have cst26 : (26 : Int32).toInt = 26 := rfl
  have hX : (fun A U H => (oN A U H) ∧ (oP A g U H)) A s s.heap := by rw [hAe]; exact hX
  obtain ⟨hN, hP⟩ := hX
  have hZ := hP.1
  have hF0 := hP.2.1
  have hfb : FrB (pf 13).toInt na ma na ma := FrB.rf
  have hfw : FrW (pf 26).toInt wa wa := FrW.rf
  refine lv_aload_n S.x S.b d_Mpg_doing_0 rfl (lv_at hl 0 rfl) ?_
  refine lv_bipush (v := 26) S.x S.b d_Mpg_doing_1 (by decide) ?_
  refine lv_aload_n S.x S.b d_Mpg_doing_3 rfl (lv_at hl 0 rfl) ?_
  refine gP_11 (v := (pf 11)) S hT hw 0 rfl rfl m9_235 d_Mpg_doing_4 ?_
  first | refine px_calli (pr := []) (px_runV (As := [.int 26, .int (pf 11)]) (rest := []) S (c_mp_make l D cs h r g tf ta wa cf ca ef ea xf xa pf na ma 26 (pf 11)  (show 0 ≤ (pf 13).toInt from g5) (show (pf 13).toInt < 2100 from (oz_1fa6c9b1b7 g6 g11 g2)) _) hT (pr := []) (pcs := [wdP cs h r g tf ta pf na ma wa cf ca ef ea xf xa]) hw px_X.tt (px_recv hT hw 0 0 rfl rfl rfl) m11_209 m11_206 m11_208 ms_8_12 m1_21 q_Mpg_make ⟨show 0 + 1 ≤ (8 * lv + 26) from (oz_3fe2768530), show 8 + (3 + 11) + 0 ≤ (220 * lv + 1200) from (oz_877b3efa3f)⟩ hl.1 rfl (Nat.le_of_ble_eq_true rfl) d_Mpg_doing_7 ⟨Nat.le_of_ble_eq_true rfl, Nat.le_of_ble_eq_true rfl⟩) hw hA (fun v8 p7 H locs hp7 hw => ?_) | (refine px_calli (pr := []) (px_runV (As := [.int 26, .int (pf 11)]) (rest := []) S (c_mp_make l D cs h r g tf ta wa cf ca ef ea xf xa pf na ma 26 (pf 11)  (show 0 ≤ (pf 13).toInt from by first | exact g5 | omega) (show (pf 13).toInt < 2100 from by first | exact oz_1fa6c9b1b7 g6 g11 g2 | omega) _) hT (pr := []) (pcs := [wdP cs h r g tf ta pf na ma wa cf ca ef ea xf xa]) hw px_X.tt (px_recv hT hw 0 0 rfl rfl rfl) m11_209 m11_206 m11_208 ms_8_12 m1_21 q_Mpg_make ⟨show 0 + 1 ≤ (8 * lv + 26) from (by first | exact oz_3fe2768530 | omega), show 8 + (3 + 11) + 0 ≤ (220 * lv + 1200) from (by first | exact oz_877b3efa3f | omega)⟩ hl.1 rfl (Nat.le_of_ble_eq_true rfl) d_Mpg_doing_7 ⟨Nat.le_of_ble_eq_true rfl, Nat.le_of_ble_eq_true rfl⟩) hw hA (fun v8 p7 H locs hp7 hw => ?_))
  obtain ⟨pf4, na5, ma6, rfl, e9, e10, e11, e12, e13, e14, e15, e16, e17⟩ := hp7
  have e9 : v8.toInt = (pf 13).toInt := e9
  have e10 : (pf4 13).toInt = (pf 13).toInt + 1 := e10
  have e11 : (pf4 11).toInt = (pf 11).toInt := e11
  have e12 : (pf4 12).toInt = (pf 12).toInt := e12
  have e13 : (pf4 24).toInt = (pf 24).toInt := e13
  have e14 : (pf4 25).toInt = (pf 25).toInt := e14
  have e15 : (pf4 26).toInt = (pf 26).toInt := e15
  have e16 : MkN na ma na5 ma6 v8 (26 : Int32) (pf 11) := e16
  have e17 : R_mp_make (26 : Int32) (pf 11) pf na ma pf4 na5 ma6 v8 := e17
  obtain ⟨qb181, qb182, qb183, qb184⟩ := tk_eq (ta := ta) (x := (pf4 11)) (y := (pf 11)) (by omega)
  have hmk_v8 := e16
  have hfm_v8 := MkN.frb (b := v8.toInt) hmk_v8 (by omega) (by omega)
  have hfs := FsI.mk hfs hmk_v8 (by omega) (by omega) (by omega) (by omega)
  have hfb := hfb.tr hfm_v8 (by omega)
  have hf_14_v8 := hmk_v8.2.1 (by decide) (by decide)
  have hf_15_v8 := hmk_v8.2.2.1
  have hf_17_v8 := hmk_v8.2.2.2.2.1
  have hf_18_v8 := hmk_v8.2.2.2.2.2.1
  have hf_19_v8 := hmk_v8.2.2.2.2.2.2.1
  have hf_21_v8 := hmk_v8.2.2.2.2.2.2.2.2.1
  clear hmk_v8 hfm_v8
  have lv8 := Int32.le_toInt v8
  have uv8 := Int32.toInt_lt v8
  refine lv_istore_n (lv' := [(1, .int v8), (0, .ref h)]) S.x S.b d_Mpg_doing_10 rfl hl (by decide) rfl (fun ls hl => ?_)
  refine lv_aload_n S.x S.b d_Mpg_doing_11 rfl (lv_at hl 1 rfl) ?_
  first | refine th_callv (ps0 := [wdP cs h r g tf ta pf na ma wa cf ca ef ea xf xa]) (pr := []) (pcs := [wdP cs h r g tf ta pf4 na5 ma6 wa cf ca ef ea xf xa]) (As := []) (rest := []) (c_mp_opens l D cs h r g tf ta na5 ma6 wa cf ca ef ea xf xa pf4   (show 0 ≤ (pf4 11).toInt from (oz_f3ebed1ad0 e11 g0)) (show (pf4 11).toInt < (tf 6).toInt from (oz_0f9fb0345d g11 e11)) (show (tf 6).toInt ≤ 2049 from g2) (show (pf4 11).toInt + 1 < (tf 6).toInt from (oz_4b6b8b2f72 g11 e11)) (show 0 ≤ (pf4 12).toInt from (oz_f3ebed1ad0 e12 g3)) (show (pf4 12).toInt ≤ 60 from (oz_a3db38fa3c e12 g4)) hlf htk) S hT hw (oX_call (P := (fun A U H => (oN A U H) ∧ (oP A g U H))) (pr := []) (oG_and oG_N oG_P) hw hA ⟨hN, hP⟩) (px_recv hT hw 0 0 rfl rfl rfl) m11_238 m11_235 m11_237 ms_9_1 m1_21 q_Mpg_opens ⟨show 7 + 1 ≤ (8 * lv + 26) from (oz_8b673174a9), show 8 + (1 + 11) + 150 ≤ (220 * lv + 1200) from (oz_8d5674cc2c)⟩ hl.1 rfl (Nat.le_of_ble_eq_true rfl) d_Mpg_doing_12 ⟨Nat.le_of_ble_eq_true rfl, Nat.le_of_ble_eq_true rfl⟩ hne hlk hA hAe (fun o t h => Or.inr h) ?_ (fun p21 H locs hp21 hw => ?_) | (refine th_callv (ps0 := [wdP cs h r g tf ta pf na ma wa cf ca ef ea xf xa]) (pr := []) (pcs := [wdP cs h r g tf ta pf4 na5 ma6 wa cf ca ef ea xf xa]) (As := []) (rest := []) (c_mp_opens l D cs h r g tf ta na5 ma6 wa cf ca ef ea xf xa pf4   (show 0 ≤ (pf4 11).toInt from by first | exact oz_f3ebed1ad0 e11 g0 | omega) (show (pf4 11).toInt < (tf 6).toInt from by first | exact oz_0f9fb0345d g11 e11 | omega) (show (tf 6).toInt ≤ 2049 from by first | exact g2 | omega) (show (pf4 11).toInt + 1 < (tf 6).toInt from by first | exact oz_4b6b8b2f72 g11 e11 | omega) (show 0 ≤ (pf4 12).toInt from by first | exact oz_f3ebed1ad0 e12 g3 | omega) (show (pf4 12).toInt ≤ 60 from by first | exact oz_a3db38fa3c e12 g4 | omega) hlf htk) S hT hw (oX_call (P := (fun A U H => (oN A U H) ∧ (oP A g U H))) (pr := []) (oG_and oG_N oG_P) hw hA ⟨hN, hP⟩) (px_recv hT hw 0 0 rfl rfl rfl) m11_238 m11_235 m11_237 ms_9_1 m1_21 q_Mpg_opens ⟨show 7 + 1 ≤ (8 * lv + 26) from (by first | exact oz_8b673174a9 | omega), show 8 + (1 + 11) + 150 ≤ (220 * lv + 1200) from (by first | exact oz_8d5674cc2c | omega)⟩ hl.1 rfl (Nat.le_of_ble_eq_true rfl) d_Mpg_doing_12 ⟨Nat.le_of_ble_eq_true rfl, Nat.le_of_ble_eq_true rfl⟩ hne hlk hA hAe (fun o t h => Or.inr h) ?_ (fun p21 H locs hp21 hw => ?_))
  · exact fun p1 H1 locs1 hp hw => by obtain ⟨pq1, pq2, pq3, pq4, rfl, hq1, hq2, hu_na, hu_ma, hu_wa, hq3⟩ := hp; exact ⟨_, ⟨pq1, pq2, pq3, pq4, rfl, hq1, hq2, (Or.inl ⟨pf4, na5, ma6, v8, e17, Or.inl ⟨pq1, hq3, rfl, hu_na, hu_ma, hu_wa, rfl, rfl⟩⟩)⟩, hw⟩
  obtain ⟨pf20, rfl, e23, e24, e25, e26, e27, e28, e29, e30, e31, e32, e33⟩ := hp21
  have e23 : (pf20 11).toInt = (pf4 11).toInt + 1 := e23
  have e24 : (pf20 11).toInt < (tf 6).toInt := e24
  have e25 : bp ta (pf4 11) + sz ta (pf4 11) ≤ bp ta (pf20 11) := e25
  have e26 : 1 ≤ sz ta (pf4 11) := e26
  have e27 : (pf20 12).toInt = (pf4 12).toInt + 1 := e27
  have e28 : (pf4 12).toInt < 60 := e28
  have e29 : (pf20 13).toInt = (pf4 13).toInt := e29
  have e30 : (pf20 24).toInt = (pf4 24).toInt := e30
  have e31 : (pf20 25).toInt = (pf4 25).toInt := e31
  have e32 : (pf20 26).toInt = (pf4 26).toInt := e32
  have e33 : R_mp_opens pf4 pf20 0 := e33
  refine lv_aload_n S.x S.b d_Mpg_doing_15 rfl (lv_at hl 1 rfl) ?_
  refine gP_18 S hT hw 0 rfl m10_3 d_Mpg_doing_16 ?_
  refine lv_iload_n S.x S.b d_Mpg_doing_19 rfl (lv_at hl 0 rfl) ?_
  refine lv_aload_n S.x S.b d_Mpg_doing_20 rfl (lv_at hl 1 rfl) ?_
  first | refine th_calli (ps0 := [wdP cs h r g tf ta pf na ma wa cf ca ef ea xf xa]) (pr := []) (pcs := [wdP cs h r g tf ta pf20 na5 ma6 wa cf ca ef ea xf xa]) (As := []) (rest := [.int v8, .ref (r 18)]) ((hLT.go (by omega)) h r g tf ta cf ca ef ea xf xa pf20 na5 ma6 wa   (show 0 ≤ (pf20 11).toInt from (oz_f3f97b7517 e23 e11 g0)) (show (pf20 11).toInt < (tf 6).toInt from e24) (show (tf 6).toInt ≤ 2049 from g2) (show 0 ≤ (pf20 12).toInt from (oz_87be06313f e27 e12 g8 g7)) (show (pf20 12).toInt ≤ 60 from (oz_6710fd9021 e27 e28)) (show 0 ≤ (pf20 13).toInt from (oz_78ad3463af e29 e10 g5)) (show (pf20 13).toInt ≤ (pf20 11).toInt + 10 from (oz_80eb9436a0 e23 e29 e10 e11 g6)) (show 0 ≤ (pf20 26).toInt from (oz_e2fef14871 e32 e15 g7)) (show (pf20 26).toInt ≤ (pf20 12).toInt from (oz_e919e29b70 e27 e32 e12 e15 g8)) (show 61 ≤ (pf20 12).toInt + ((lv - 1 : Nat) : Int) from by omega) (show lv - 1 ≤ 61 from by omega) hlf htk (FsI.le (N' := (pf20 13).toInt) hfs (by omega))) S hT hw (oX_call (P := (fun A U H => (oN A U H) ∧ (oP A g U H))) (pr := []) (oG_and oG_N oG_P) hw hA ⟨hN, hP⟩) (px_recv hT hw 0 0 rfl rfl rfl) m12_101 m12_98 m12_100 ms_10_10 m1_21 q_Mpg_statement ⟨show (8 * (lv - 1) + 28) + 1 ≤ (8 * lv + 26) from by omega, show 8 + (2 + 11) + (220 * (lv - 1) + 1280) ≤ (220 * lv + 1200) from by omega⟩ hl.1 rfl (Nat.le_of_ble_eq_true rfl) d_Mpg_doing_21 ⟨Nat.le_of_ble_eq_true rfl, Nat.le_of_ble_eq_true rfl⟩ hne hlk hA hAe (fun o t h => Or.inr h) ?_ (fun v43 p42 H locs hp42 hw => ?_) | (refine th_calli (ps0 := [wdP cs h r g tf ta pf na ma wa cf ca ef ea xf xa]) (pr := []) (pcs := [wdP cs h r g tf ta pf20 na5 ma6 wa cf ca ef ea xf xa]) (As := []) (rest := [.int v8, .ref (r 18)]) ((hLT.go (by omega)) h r g tf ta cf ca ef ea xf xa pf20 na5 ma6 wa   (show 0 ≤ (pf20 11).toInt from by first | exact oz_f3f97b7517 e23 e11 g0 | omega) (show (pf20 11).toInt < (tf 6).toInt from by first | exact e24 | omega) (show (tf 6).toInt ≤ 2049 from by first | exact g2 | omega) (show 0 ≤ (pf20 12).toInt from by first | exact oz_87be06313f e27 e12 g8 g7 | omega) (show (pf20 12).toInt ≤ 60 from by first | exact oz_6710fd9021 e27 e28 | omega) (show 0 ≤ (pf20 13).toInt from by first | exact oz_78ad3463af e29 e10 g5 | omega) (show (pf20 13).toInt ≤ (pf20 11).toInt + 10 from by first | exact oz_80eb9436a0 e23 e29 e10 e11 g6 | omega) (show 0 ≤ (pf20 26).toInt from by first | exact oz_e2fef14871 e32 e15 g7 | omega) (show (pf20 26).toInt ≤ (pf20 12).toInt from by first | exact oz_e919e29b70 e27 e32 e12 e15 g8 | omega) (show 61 ≤ (pf20 12).toInt + ((lv - 1 : Nat) : Int) from by omega) (show lv - 1 ≤ 61 from by omega) hlf htk (FsI.le (N' := (pf20 13).toInt) hfs (by omega))) S hT hw (oX_call (P := (fun A U H => (oN A U H) ∧ (oP A g U H))) (pr := []) (oG_and oG_N oG_P) hw hA ⟨hN, hP⟩) (px_recv hT hw 0 0 rfl rfl rfl) m12_101 m12_98 m12_100 ms_10_10 m1_21 q_Mpg_statement ⟨show (8 * (lv - 1) + 28) + 1 ≤ (8 * lv + 26) from by omega, show 8 + (2 + 11) + (220 * (lv - 1) + 1280) ≤ (220 * lv + 1200) from by omega⟩ hl.1 rfl (Nat.le_of_ble_eq_true rfl) d_Mpg_doing_21 ⟨Nat.le_of_ble_eq_true rfl, Nat.le_of_ble_eq_true rfl⟩ hne hlk hA hAe (fun o t h => Or.inr h) ?_ (fun v43 p42 H locs hp42 hw => ?_))
  · exact fun p1 H1 locs1 hp hw => by obtain ⟨pq1, pq2, pq3, pq4, rfl, hq1, hq2, hq3⟩ := hp; (first | exact ⟨_, ⟨pq1, pq2, pq3, pq4, rfl, hq1, hq2, (Or.inl ⟨pf4, na5, ma6, v8, e17, Or.inr ⟨pf20, e33, Or.inl ⟨pq1, pq2, pq3, pq4, (up_RL_mp_statement (show 1 ≤ lv from (oz_6721671b0f g9 g4)) ▸ hq3), rfl, rfl, rfl, rfl, rfl, rfl⟩⟩⟩)⟩, hw⟩ | (exact ⟨_, ⟨pq1, pq2, pq3, pq4, rfl, hq1, hq2, (Or.inl ⟨pf4, na5, ma6, v8, e17, Or.inr ⟨pf20, e33, Or.inl ⟨pq1, pq2, pq3, pq4, (up_RL_mp_statement (show 1 ≤ lv from by first | exact oz_6721671b0f g9 g4 | omega) ▸ hq3), rfl, rfl, rfl, rfl, rfl, rfl⟩⟩⟩)⟩, hw⟩))
  obtain ⟨pf38, na39, ma40, wa41, rfl, e44, e45, e46, e47, e48, e49, e50, e51, e52, e53, e54, e55, e56, e57⟩ := hp42
  have e44 : (pf20 11).toInt + 1 ≤ (pf38 11).toInt := e44
  have e45 : (pf38 11).toInt < (tf 6).toInt := e45
  have e46 : (pf20 13).toInt + 1 ≤ (pf38 13).toInt := e46
  have e47 : (pf38 13).toInt - (pf20 13).toInt ≤ (pf38 11).toInt - (pf20 11).toInt := e47
  have e48 : bp ta (pf20 11) + 1 ≤ bp ta (pf38 11) := e48
  have e49 : (pf38 12).toInt = (pf20 12).toInt := e49
  have e50 : (pf38 24).toInt = (pf20 24).toInt := e50
  have e51 : (pf38 25).toInt = (pf20 25).toInt := e51
  have e52 : (pf38 26).toInt = (pf20 26).toInt := e52
  have e53 : FrB (pf20 13).toInt na5 ma6 na39 ma40 := e53
  have hf_14_v8 := (fb_n e53 (by omega) (by omega)).trans hf_14_v8
  have hf_15_v8 := (fb_n e53 (by omega) (by omega)).trans hf_15_v8
  have hf_17_v8 := (fb_n e53 (by omega) (by omega)).trans hf_17_v8
  have hf_18_v8 := (fb_m e53 (by omega) (by omega)).trans hf_18_v8
  have hf_19_v8 := (fb_m e53 (by omega) (by omega)).trans hf_19_v8
  have hf_21_v8 := (fb_n e53 (by omega) (by omega)).trans hf_21_v8
  have hfb := hfb.tr e53 (by omega)
  have e54 : FrW (pf20 26).toInt wa wa41 := e54
  have hfw := hfw.tr e54 (by omega)
  have e55 : VlS ta (tf 6).toInt na39 ma40 v43 (pf20 13).toInt (pf38 13).toInt (3 * (bp ta (pf38 11) - bp ta (pf20 11))) (200 - (pf20 12).toInt) := e55
  have hv_v43 := e55
  have hn_hv_v43 := hv_v43.num fs_ok
  have e56 : FsI (tf 6).toInt (pf38 13).toInt na39 := e56
  have hfs := e56
  have e57 : R_mp_statement (RL_mp_statement (lv - 1)) ta pf20 na5 ma6 wa pf38 na39 ma40 wa41 v43 0 := e57
  first | have e57L : (RL_mp_statement lv) ta pf20 na5 ma6 wa pf38 na39 ma40 wa41 v43 0 := up_RL_mp_statement (show 1 ≤ lv from (oz_6721671b0f g9 g4)) ▸ e57 | (have e57L : (RL_mp_statement lv) ta pf20 na5 ma6 wa pf38 na39 ma40 wa41 v43 0 := up_RL_mp_statement (show 1 ≤ lv from by first | exact oz_6721671b0f g9 g4 | omega) ▸ e57)
  have lv43 := Int32.le_toInt v43
  have uv43 := Int32.toInt_lt v43
  refine px_iast S hT hw 0 14 (n := 2100) (f := (ma40 18)) (x := v8) (y := v43) rfl gp_18 (vp_in_iff.mpr (by constructor <;> omega)) d_Mpg_doing_24 (w' := wdP cs h r g tf ta pf38 na39 (va_up ma40 18 (upd (ma40 18) v8.toNatClampNeg v43)) wa41 cf ca ef ea xf xa) (ps' := [wdP cs h r g tf ta pf38 na39 (va_up ma40 18 (upd (ma40 18) v8.toNatClampNeg v43)) wa41 cf ca ef ea xf xa]) sp_18 rfl (fun H locs hw => ?_)
  obtain ⟨ma58, hu_ma58⟩ : ∃ y : Nat → Nat → Int32, y = va_up ma40 18 (upd (ma40 18) v8.toNatClampNeg v43) := ⟨_, rfl⟩
  have hw : pw D A s.heap _ _ [wdP cs h r g tf ta pf38 na39 ma58 wa41 cf ca ef ea xf xa] := (by rw [hu_ma58]; exact hw)
  have hv_v43 := hv_v43.ag fs_ok (ag_m hu_ma58 (by omega) (by omega))
  have hf_19_v8 := (fl_n hu_ma58 (by decide)).trans hf_19_v8
  have hf_18_v8 : ma58 18 v8.toNatClampNeg = v43 := (by rw [hu_ma58, va_up_s, pk_us])
  have hfb : FrB (pf 13).toInt na ma na39 ma58 := (by rw [hu_ma58]; exact FrB.um hfb (by omega) (by omega))
  refine lv_aload_n S.x S.b d_Mpg_doing_25 rfl (lv_at hl 1 rfl) ?_
  refine lv_aload_n S.x S.b d_Mpg_doing_26 rfl (lv_at hl 1 rfl) ?_
  refine lv_bipush (v := 6) S.x S.b d_Mpg_doing_27 (by decide) ?_
  first | refine px_calli (pr := []) (px_runV (As := [.int 6]) (rest := [.ref h]) S (c_mp_takesKey l D cs h r g tf ta na39 ma58 wa41 cf ca ef ea xf xa pf38 6  (show 0 ≤ (pf38 11).toInt from (oz_5d987d7f9e e44 e23 g0 e11)) (show (pf38 11).toInt < (tf 6).toInt from e45) (show (tf 6).toInt ≤ 2049 from g2) htk _) hT (pr := []) (pcs := [wdP cs h r g tf ta pf38 na39 ma58 wa41 cf ca ef ea xf xa]) hw px_X.tt (px_recv hT hw 0 0 rfl rfl rfl) m12_133 m12_130 m12_132 ms_11_2 m1_21 q_Mpg_takesKey ⟨show 1 + 1 ≤ (8 * lv + 26) from (oz_10629d6254), show 8 + (3 + 11) + 40 ≤ (220 * lv + 1200) from (oz_ceb0a10683)⟩ hl.1 rfl (Nat.le_of_ble_eq_true rfl) d_Mpg_doing_29 ⟨Nat.le_of_ble_eq_true rfl, Nat.le_of_ble_eq_true rfl⟩) hw hA (fun v62 p61 H locs hp61 hw => ?_) | (refine px_calli (pr := []) (px_runV (As := [.int 6]) (rest := [.ref h]) S (c_mp_takesKey l D cs h r g tf ta na39 ma58 wa41 cf ca ef ea xf xa pf38 6  (show 0 ≤ (pf38 11).toInt from by first | exact oz_5d987d7f9e e44 e23 g0 e11 | omega) (show (pf38 11).toInt < (tf 6).toInt from by first | exact e45 | omega) (show (tf 6).toInt ≤ 2049 from by first | exact g2 | omega) htk _) hT (pr := []) (pcs := [wdP cs h r g tf ta pf38 na39 ma58 wa41 cf ca ef ea xf xa]) hw px_X.tt (px_recv hT hw 0 0 rfl rfl rfl) m12_133 m12_130 m12_132 ms_11_2 m1_21 q_Mpg_takesKey ⟨show 1 + 1 ≤ (8 * lv + 26) from (by first | exact oz_10629d6254 | omega), show 8 + (3 + 11) + 40 ≤ (220 * lv + 1200) from (by first | exact oz_ceb0a10683 | omega)⟩ hl.1 rfl (Nat.le_of_ble_eq_true rfl) d_Mpg_doing_29 ⟨Nat.le_of_ble_eq_true rfl, Nat.le_of_ble_eq_true rfl⟩) hw hA (fun v62 p61 H locs hp61 hw => ?_))
  obtain ⟨pf60, rfl, e63, e64, e65, e66, e67, e68, e69, e70, e71, e72⟩ := hp61
  have e63 := z_rng e63
  have e64 : (pf60 11).toInt = (pf38 11).toInt + v62.toInt := e64
  have e65 : (pf60 11).toInt < (tf 6).toInt := e65
  have e66 : bp ta (pf38 11) + v62.toInt ≤ bp ta (pf60 11) := e66
  have e67 : (pf60 12).toInt = (pf38 12).toInt := e67
  have e68 : (pf60 13).toInt = (pf38 13).toInt := e68
  have e69 : (pf60 24).toInt = (pf38 24).toInt := e69
  have e70 : (pf60 25).toInt = (pf38 25).toInt := e70
  have e71 : (pf60 26).toInt = (pf38 26).toInt := e71
  have e72 : R_mp_takesKey ta (6 : Int32) pf38 pf60 v62 := e72
  have lv62 := Int32.le_toInt v62
  have uv62 := Int32.toInt_lt v62
  first | refine th_callv (ps0 := [wdP cs h r g tf ta pf na ma wa cf ca ef ea xf xa]) (pr := [wdP cs h r g tf ta pf60 na39 ma58 wa41 cf ca ef ea xf xa]) (pcs := []) (As := [.int v62]) (rest := []) (c_mp_need l hlf D cs h v62) S hT hw (oX_call (P := (fun A U H => (oN A U H))) (pr := [wdP cs h r g tf ta pf60 na39 ma58 wa41 cf ca ef ea xf xa]) oG_N hw hA hN) (px_recv hT hw 0 0 rfl rfl rfl) m11_233 m11_230 m11_232 ms_9_0 m1_21 q_Mpg_need ⟨show 6 + 1 ≤ (8 * lv + 26) from (oz_c236c17a10), show 8 + (2 + 11) + 100 ≤ (220 * lv + 1200) from (oz_4b916428d7)⟩ hl.1 rfl (Nat.le_of_ble_eq_true rfl) d_Mpg_doing_32 ⟨Nat.le_of_ble_eq_true rfl, Nat.le_of_ble_eq_true rfl⟩ hne hlk hA hAe (fun o t h => Or.inr h) ?_ (fun p73 H locs hp73 hw => ?_) | (refine th_callv (ps0 := [wdP cs h r g tf ta pf na ma wa cf ca ef ea xf xa]) (pr := [wdP cs h r g tf ta pf60 na39 ma58 wa41 cf ca ef ea xf xa]) (pcs := []) (As := [.int v62]) (rest := []) (c_mp_need l hlf D cs h v62) S hT hw (oX_call (P := (fun A U H => (oN A U H))) (pr := [wdP cs h r g tf ta pf60 na39 ma58 wa41 cf ca ef ea xf xa]) oG_N hw hA hN) (px_recv hT hw 0 0 rfl rfl rfl) m11_233 m11_230 m11_232 ms_9_0 m1_21 q_Mpg_need ⟨show 6 + 1 ≤ (8 * lv + 26) from (by first | exact oz_c236c17a10 | omega), show 8 + (2 + 11) + 100 ≤ (220 * lv + 1200) from (by first | exact oz_4b916428d7 | omega)⟩ hl.1 rfl (Nat.le_of_ble_eq_true rfl) d_Mpg_doing_32 ⟨Nat.le_of_ble_eq_true rfl, Nat.le_of_ble_eq_true rfl⟩ hne hlk hA hAe (fun o t h => Or.inr h) ?_ (fun p73 H locs hp73 hw => ?_))
  · exact fun p1 H1 locs1 hp hw => by obtain ⟨rfl, hq0⟩ := hp; exact ⟨_, ⟨pf60, na39, ma58, wa41, rfl, by omega, by omega, (Or.inl ⟨pf4, na5, ma6, v8, e17, Or.inr ⟨pf20, e33, Or.inr ⟨pf38, na39, ma40, wa41, v43, e57L, ma58, hu_ma58, pf60, v62, e72, Or.inl ⟨hq0, rfl, rfl, rfl, rfl, rfl, rfl⟩⟩⟩⟩)⟩, hw.sub [0] rfl rfl⟩
  obtain ⟨rfl, hndp73⟩ := hp73
  have hndp73 : ¬ v62.toInt = 0 := hndp73
  refine lv_aload_n S.x S.b d_Mpg_doing_35 rfl (lv_at hl 1 rfl) ?_
  refine gP_17 S hT hw 0 rfl m10_1 d_Mpg_doing_36 ?_
  refine lv_iload_n S.x S.b d_Mpg_doing_39 rfl (lv_at hl 0 rfl) ?_
  refine lv_aload_n S.x S.b d_Mpg_doing_40 rfl (lv_at hl 1 rfl) ?_
  first | refine th_calli (ps0 := [wdP cs h r g tf ta pf na ma wa cf ca ef ea xf xa]) (pr := []) (pcs := [wdP cs h r g tf ta pf60 na39 ma58 wa41 cf ca ef ea xf xa]) (As := []) (rest := [.int v8, .ref (r 17)]) (c_mp_inParentheses l D cs h r g tf ta cf ca ef ea xf xa pf60 na39 ma58 wa41  lv (show 0 ≤ (pf60 11).toInt from (oz_973b2ce965 e64 e44 e63.1 g0 e11 e23)) (show (pf60 11).toInt < (tf 6).toInt from e65) (show (tf 6).toInt ≤ 2049 from g2) (show 0 ≤ (pf60 12).toInt from (oz_cffcf29412 e67 e49 e27 e12 g8 g7)) (show (pf60 12).toInt ≤ 60 from (oz_51eeb0c7ba e67 e49 e27 e28)) (show 0 ≤ (pf60 13).toInt from (oz_cf8e4b951f e68 e46 e29 e10 g5)) (show (pf60 13).toInt ≤ (pf60 11).toInt + 10 from (oz_a20ee91ac9 e64 e68 e47 e63.1 g6 e11 e23 e29 e10)) (show 0 ≤ (pf60 26).toInt from (oz_00b9fbaef4 e71 e52 e32 e15 g7)) (show (pf60 26).toInt ≤ (pf60 12).toInt from (oz_3357ca9d54 e67 e71 e49 e52 e27 e32 e12 e15 g8)) (show 61 ≤ (pf60 12).toInt + (lv : Int) from (oz_9277c9ebe9 g9 e67 e12 e49 e27)) (show lv ≤ 61 from g10) hlf htk (FsI.le (N' := (pf60 13).toInt) hfs (by omega))) S hT hw (oX_call (P := (fun A U H => (oN A U H) ∧ (oP A g U H))) (pr := []) (oG_and oG_N oG_P) hw hA ⟨hN, hP⟩) (px_recv hT hw 0 0 rfl rfl rfl) m12_129 m12_126 m12_128 ms_11_1 m1_21 q_Mpg_inParentheses ⟨show (8 * lv + 22) + 1 ≤ (8 * lv + 26) from (oz_2e917a000d), show 8 + (2 + 11) + (220 * lv + 1000) ≤ (220 * lv + 1200) from (oz_552b89e250)⟩ hl.1 rfl (Nat.le_of_ble_eq_true rfl) d_Mpg_doing_41 ⟨Nat.le_of_ble_eq_true rfl, Nat.le_of_ble_eq_true rfl⟩ hne hlk hA hAe (fun o t h => Or.inr h) ?_ (fun v84 p83 H locs hp83 hw => ?_) | (refine th_calli (ps0 := [wdP cs h r g tf ta pf na ma wa cf ca ef ea xf xa]) (pr := []) (pcs := [wdP cs h r g tf ta pf60 na39 ma58 wa41 cf ca ef ea xf xa]) (As := []) (rest := [.int v8, .ref (r 17)]) (c_mp_inParentheses l D cs h r g tf ta cf ca ef ea xf xa pf60 na39 ma58 wa41  lv (show 0 ≤ (pf60 11).toInt from by first | exact oz_973b2ce965 e64 e44 e63.1 g0 e11 e23 | omega) (show (pf60 11).toInt < (tf 6).toInt from by first | exact e65 | omega) (show (tf 6).toInt ≤ 2049 from by first | exact g2 | omega) (show 0 ≤ (pf60 12).toInt from by first | exact oz_cffcf29412 e67 e49 e27 e12 g8 g7 | omega) (show (pf60 12).toInt ≤ 60 from by first | exact oz_51eeb0c7ba e67 e49 e27 e28 | omega) (show 0 ≤ (pf60 13).toInt from by first | exact oz_cf8e4b951f e68 e46 e29 e10 g5 | omega) (show (pf60 13).toInt ≤ (pf60 11).toInt + 10 from by first | exact oz_a20ee91ac9 e64 e68 e47 e63.1 g6 e11 e23 e29 e10 | omega) (show 0 ≤ (pf60 26).toInt from by first | exact oz_00b9fbaef4 e71 e52 e32 e15 g7 | omega) (show (pf60 26).toInt ≤ (pf60 12).toInt from by first | exact oz_3357ca9d54 e67 e71 e49 e52 e27 e32 e12 e15 g8 | omega) (show 61 ≤ (pf60 12).toInt + (lv : Int) from by first | exact oz_9277c9ebe9 g9 e67 e12 e49 e27 | omega) (show lv ≤ 61 from by first | exact g10 | omega) hlf htk (FsI.le (N' := (pf60 13).toInt) hfs (by omega))) S hT hw (oX_call (P := (fun A U H => (oN A U H) ∧ (oP A g U H))) (pr := []) (oG_and oG_N oG_P) hw hA ⟨hN, hP⟩) (px_recv hT hw 0 0 rfl rfl rfl) m12_129 m12_126 m12_128 ms_11_1 m1_21 q_Mpg_inParentheses ⟨show (8 * lv + 22) + 1 ≤ (8 * lv + 26) from (by first | exact oz_2e917a000d | omega), show 8 + (2 + 11) + (220 * lv + 1000) ≤ (220 * lv + 1200) from (by first | exact oz_552b89e250 | omega)⟩ hl.1 rfl (Nat.le_of_ble_eq_true rfl) d_Mpg_doing_41 ⟨Nat.le_of_ble_eq_true rfl, Nat.le_of_ble_eq_true rfl⟩ hne hlk hA hAe (fun o t h => Or.inr h) ?_ (fun v84 p83 H locs hp83 hw => ?_))
  · exact fun p1 H1 locs1 hp hw => by obtain ⟨pq1, pq2, pq3, pq4, rfl, hq1, hq2, hq3⟩ := hp; exact ⟨_, ⟨pq1, pq2, pq3, pq4, rfl, hq1, hq2, (Or.inl ⟨pf4, na5, ma6, v8, e17, Or.inr ⟨pf20, e33, Or.inr ⟨pf38, na39, ma40, wa41, v43, e57L, ma58, hu_ma58, pf60, v62, e72, Or.inr ⟨hndp73, Or.inl ⟨pq1, pq2, pq3, pq4, hq3, rfl, rfl, rfl, rfl, rfl, rfl⟩⟩⟩⟩⟩)⟩, hw⟩
  obtain ⟨pf79, na80, ma81, wa82, rfl, e85, e86, e87, e88, e89, e90, e91, e92, e93, e94, e95, e96, e97, e98⟩ := hp83
  have e85 : (pf60 11).toInt + 1 ≤ (pf79 11).toInt := e85
  have e86 : (pf79 11).toInt < (tf 6).toInt := e86
  have e87 : (pf60 13).toInt + 1 ≤ (pf79 13).toInt := e87
  have e88 : (pf79 13).toInt - (pf60 13).toInt ≤ (pf79 11).toInt - (pf60 11).toInt := e88
  have e89 : bp ta (pf60 11) + 1 ≤ bp ta (pf79 11) := e89
  have e90 : (pf79 12).toInt = (pf60 12).toInt := e90
  have e91 : (pf79 24).toInt = (pf60 24).toInt := e91
  have e92 : (pf79 25).toInt = (pf60 25).toInt := e92
  have e93 : (pf79 26).toInt = (pf60 26).toInt := e93
  have e94 : FrB (pf60 13).toInt na39 ma58 na80 ma81 := e94
  have hf_14_v8 := (fb_n e94 (by omega) (by omega)).trans hf_14_v8
  have hf_15_v8 := (fb_n e94 (by omega) (by omega)).trans hf_15_v8
  have hf_17_v8 := (fb_n e94 (by omega) (by omega)).trans hf_17_v8
  have hf_18_v8 := (fb_m e94 (by omega) (by omega)).trans hf_18_v8
  have hf_19_v8 := (fb_m e94 (by omega) (by omega)).trans hf_19_v8
  have hf_21_v8 := (fb_n e94 (by omega) (by omega)).trans hf_21_v8
  have hv_v43 := hv_v43.ag fs_ok (FrB.ag e94 (by omega))
  have hfb := hfb.tr e94 (by omega)
  have e95 : FrW (pf60 26).toInt wa41 wa82 := e95
  have hfw := hfw.tr e95 (by omega)
  have e96 : ExR ta (tf 6).toInt na80 ma81 v84 (pf60 13).toInt (pf79 13).toInt (3 * (bp ta (pf79 11) - bp ta (pf60 11)) - 6) (pf60 12).toInt := e96
  have ht_v84 := e96
  have hn_ht_v84 := ht_v84.num
  have e97 : FsI (tf 6).toInt (pf79 13).toInt na80 := e97
  have hfs := e97
  have e98 : R_mp_inParentheses ta pf60 na39 ma58 wa41 pf79 na80 ma81 wa82 v84 0 := e98
  have lv84 := Int32.le_toInt v84
  have uv84 := Int32.toInt_lt v84
  refine px_iast S hT hw 0 13 (n := 2100) (f := (na80 17)) (x := v8) (y := v84) rfl gp_17 (vp_in_iff.mpr (by constructor <;> omega)) d_Mpg_doing_44 (w' := wdP cs h r g tf ta pf79 (va_up na80 17 (upd (na80 17) v8.toNatClampNeg v84)) ma81 wa82 cf ca ef ea xf xa) (ps' := [wdP cs h r g tf ta pf79 (va_up na80 17 (upd (na80 17) v8.toNatClampNeg v84)) ma81 wa82 cf ca ef ea xf xa]) sp_17 rfl (fun H locs hw => ?_)
  obtain ⟨na99, hu_na99⟩ : ∃ y : Nat → Nat → Int32, y = va_up na80 17 (upd (na80 17) v8.toNatClampNeg v84) := ⟨_, rfl⟩
  have hw : pw D A s.heap _ _ [wdP cs h r g tf ta pf79 na99 ma81 wa82 cf ca ef ea xf xa] := (by rw [hu_na99]; exact hw)
  obtain ⟨ht_v84, hdq_v84⟩ := ht_v84.ag (ag_n hu_na99 (by omega) (by omega)) (by omega)
  have hn_ht_v84 := ht_v84.num
  have hv_v43 := hv_v43.ag fs_ok (ag_n hu_na99 (by omega) (by omega))
  have hf_14_v8 := (fl_n hu_na99 (by decide)).trans hf_14_v8
  have hf_15_v8 := (fl_n hu_na99 (by decide)).trans hf_15_v8
  have hf_21_v8 := (fl_n hu_na99 (by decide)).trans hf_21_v8
  have hf_17_v8 : na99 17 v8.toNatClampNeg = v84 := (by rw [hu_na99, va_up_s, pk_us])
  have hfs : FsI _ _ na99 := (by rw [hu_na99]; exact FsI.un hfs (by decide))
  have hfb : FrB (pf 13).toInt na ma na99 ma81 := (by rw [hu_na99]; exact FrB.un hfb (by omega) (by omega))
  refine lv_aload_n S.x S.b d_Mpg_doing_45 rfl (lv_at hl 1 rfl) ?_
  obtain ⟨sk100, hRsk100, st101, hSsk100⟩ := oP_litB hP (k := 101) (tx := ";") (n := 1) (List.mem_of_getElem? (i := 42) rfl)
  refine va_ldcS S.x S.b S.own hRsk100 d_Mpg_doing_46 ?_
  first | refine th_callv (ps0 := [wdP cs h r g tf ta pf na ma wa cf ca ef ea xf xa]) (pr := []) (pcs := [wdP cs h r g tf ta pf79 na99 ma81 wa82 cf ca ef ea xf xa]) (As := [.ref sk100]) (rest := []) (c_mp_take l D cs sk100 1 (lby ";") h r g tf ta na99 ma81 wa82 cf ca ef ea xf xa pf79   (show 0 ≤ (pf79 11).toInt from (oz_8c9e4e7a6d e85 e64 g0 e11 e23 e44 e63.1)) (show (pf79 11).toInt < (tf 6).toInt from e86) (show (tf 6).toInt ≤ 2049 from g2) (show 1 ≤ 100 from by omega) hlf htk) S hT hw (oX_call (P := (fun A U H => (oN A U H) ∧ (oP A g U H) ∧ (StLt A sk100 1 (lby ";") U H))) (pr := []) (oG_and oG_N (oG_and oG_P oG_QB)) hw hA ⟨hN, hP, ⟨_, hSsk100⟩⟩) (px_recv hT hw 0 0 rfl rfl rfl) m12_57 m12_54 m12_56 ms_9_15 m1_21 q_Mpg_take ⟨show 7 + 1 ≤ (8 * lv + 26) from (oz_8b673174a9), show 8 + (2 + 11) + 230 ≤ (220 * lv + 1200) from (oz_200b99b4a8)⟩ hl.1 rfl (Nat.le_of_ble_eq_true rfl) d_Mpg_doing_48 ⟨Nat.le_of_ble_eq_true rfl, Nat.le_of_ble_eq_true rfl⟩ hne hlk hA hAe (fun o t h => Or.inr h) ?_ (fun p105 H locs hp105 hw => ?_) | (refine th_callv (ps0 := [wdP cs h r g tf ta pf na ma wa cf ca ef ea xf xa]) (pr := []) (pcs := [wdP cs h r g tf ta pf79 na99 ma81 wa82 cf ca ef ea xf xa]) (As := [.ref sk100]) (rest := []) (c_mp_take l D cs sk100 1 (lby ";") h r g tf ta na99 ma81 wa82 cf ca ef ea xf xa pf79   (show 0 ≤ (pf79 11).toInt from by first | exact oz_8c9e4e7a6d e85 e64 g0 e11 e23 e44 e63.1 | omega) (show (pf79 11).toInt < (tf 6).toInt from by first | exact e86 | omega) (show (tf 6).toInt ≤ 2049 from by first | exact g2 | omega) (show 1 ≤ 100 from by omega) hlf htk) S hT hw (oX_call (P := (fun A U H => (oN A U H) ∧ (oP A g U H) ∧ (StLt A sk100 1 (lby ";") U H))) (pr := []) (oG_and oG_N (oG_and oG_P oG_QB)) hw hA ⟨hN, hP, ⟨_, hSsk100⟩⟩) (px_recv hT hw 0 0 rfl rfl rfl) m12_57 m12_54 m12_56 ms_9_15 m1_21 q_Mpg_take ⟨show 7 + 1 ≤ (8 * lv + 26) from (by first | exact oz_8b673174a9 | omega), show 8 + (2 + 11) + 230 ≤ (220 * lv + 1200) from (by first | exact oz_200b99b4a8 | omega)⟩ hl.1 rfl (Nat.le_of_ble_eq_true rfl) d_Mpg_doing_48 ⟨Nat.le_of_ble_eq_true rfl, Nat.le_of_ble_eq_true rfl⟩ hne hlk hA hAe (fun o t h => Or.inr h) ?_ (fun p105 H locs hp105 hw => ?_))
  · exact fun p1 H1 locs1 hp hw => by obtain ⟨pq1, pq2, pq3, pq4, rfl, hq1, hq2, hu_na, hu_ma, hu_wa, hq3⟩ := hp; exact ⟨_, ⟨pq1, pq2, pq3, pq4, rfl, hq1, hq2, (Or.inl ⟨pf4, na5, ma6, v8, e17, Or.inr ⟨pf20, e33, Or.inr ⟨pf38, na39, ma40, wa41, v43, e57L, ma58, hu_ma58, pf60, v62, e72, Or.inr ⟨hndp73, Or.inr ⟨pf79, na80, ma81, wa82, v84, e98, na99, hu_na99, Or.inl ⟨pq1, hq3, rfl, hu_na, hu_ma, hu_wa, rfl, rfl⟩⟩⟩⟩⟩⟩)⟩, hw⟩
  obtain ⟨pf104, rfl, e107, e108, e109, e110, e111, e112, e113, e114, e115⟩ := hp105
  have e107 : (pf104 11).toInt = (pf79 11).toInt + 1 := e107
  have e108 : (pf104 11).toInt < (tf 6).toInt := e108
  have e109 : bp ta (pf79 11) + 1 ≤ bp ta (pf104 11) := e109
  have e110 : (pf104 12).toInt = (pf79 12).toInt := e110
  have e111 : (pf104 13).toInt = (pf79 13).toInt := e111
  have e112 : (pf104 24).toInt = (pf79 24).toInt := e112
  have e113 : (pf104 25).toInt = (pf79 25).toInt := e113
  have e114 : (pf104 26).toInt = (pf79 26).toInt := e114
  have e115 : R_mp_take 1 (lby ";") ta pf79 pf104 0 := e115
  refine lv_aload_n S.x S.b d_Mpg_doing_51 rfl (lv_at hl 1 rfl) ?_
  refine lv_dup S.x S.b d_Mpg_doing_52 rfl ?_
  refine gP_12 (v := (pf104 12)) S hT hw 0 rfl rfl m9_236 d_Mpg_doing_53 ?_
  refine lv_iconst (v := 1) S.x S.b d_Mpg_doing_56 (by decide) ?_
  refine lv_isub S.x S.b d_Mpg_doing_57 ?_
  have lr116 := Int32.le_toInt (pf104 12)
  have ur116 := Int32.toInt_lt (pf104 12)
  refine lv_topi (fun z117 ez117 => ?_)
  have tz117 : z117.toInt = ((pf104 12).toInt - (1 : Int) + 2147483648) % 4294967296 - 2147483648 := by rw [ez117]; exact i_sub (pf104 12) 1
  have lz117 := Int32.le_toInt z117
  have uz117 := Int32.toInt_lt z117
  try replace tz117 : z117.toInt = (pf104 12).toInt - (1 : Int) := by omega
  refine pP_12 S hT hw 0 rfl m9_236 rfl rfl rfl d_Mpg_doing_58 (ps' := [wdP cs h r g tf ta (upd pf104 12 z117) na99 ma81 wa82 cf ca ef ea xf xa]) rfl (fun H locs hw => ?_)
  refine lv_iload_n S.x S.b d_Mpg_doing_61 rfl (lv_at hl 0 rfl) ?_
  first | exact th_iret (v := v8) S hr rfl hlk hAe hw (⟨(upd pf104 12 z117), na99, ma81, wa82, rfl, (show (pf 11).toInt + 1 ≤ (pf104 11).toInt from (oz_aad75de018 e11 e107 e23 e85 e44 e64 e63.1)), (show (pf104 11).toInt < (tf 6).toInt from e108), (show (pf 13).toInt + 1 ≤ (pf104 13).toInt from (oz_0f2b28d9b8 e10 e111 e29 e87 e46 e68)), (show (pf104 13).toInt - (pf 13).toInt ≤ (pf104 11).toInt - (pf 11).toInt from (oz_87fffc65d6 e10 e11 e107 e111 e23 e29 e88 e47 e64 e68 e63.1)), (show bp ta (pf 11) + 1 ≤ bp ta (pf104 11) from (oz_a8afd67e66 qb181 e109 e25 e89 e26 e48 e66 e63.1)), (show z117.toInt = (pf 12).toInt from (oz_f3d5d0e710 e12 tz117 e27 e110 e49 e90 e67)), (show (pf104 24).toInt = (pf 24).toInt from (oz_a783471c71 e13 e112 e30 e91 e50 e69)), (show (pf104 25).toInt = (pf 25).toInt from (oz_a783471c71 e14 e113 e31 e92 e51 e70)), (show (pf104 26).toInt = (pf 26).toInt from (oz_a783471c71 e15 e114 e32 e93 e52 e71)), (show FrB (pf 13).toInt na ma na99 ma81 from hfb), (show FrW (pf 26).toInt wa wa82 from hfw), (show VlS ta (tf 6).toInt na99 ma81 v8 (pf 13).toInt (pf104 13).toInt (3 * (bp ta (pf104 11) - bp ta (pf 11))) (200 - (pf 12).toInt) from (VlV.le (st_do (hi := (pf104 13).toInt) (D := (199 - (pf 12).toInt)) ⟨by omega, hf_14_v8, hf_15_v8, ⟨by omega, by omega⟩, hf_21_v8⟩ hf_17_v8 hf_18_v8 hf_19_v8 (by omega) (VlV.le hv_v43 (Int.le_refl _) (Int.le_refl _) (Int.le_refl _) (by omega)) (VlV.le (exr_vl ht_v84 (by omega)) (Int.le_refl _) (by omega) (Int.le_refl _) (by omega)) (by omega) (by omega)) (by omega) (by omega) (by omega) (by omega))), (show FsI (tf 6).toInt (pf104 13).toInt na99 from (FsI.le hfs (by omega))), (show R_mp_doing (RL_mp_statement lv) ta pf na ma wa (upd pf104 12 z117) na99 ma81 wa82 v8 0 from (Or.inl ⟨pf4, na5, ma6, v8, e17, Or.inr ⟨pf20, e33, Or.inr ⟨pf38, na39, ma40, wa41, v43, e57L, ma58, hu_ma58, pf60, v62, e72, Or.inr ⟨hndp73, Or.inr ⟨pf79, na80, ma81, wa82, v84, e98, na99, hu_na99, Or.inr ⟨pf104, e115, z117, ez117, rfl, rfl, rfl, rfl, rfl, rfl⟩⟩⟩⟩⟩⟩))⟩) d_Mpg_doing_62 | (exact th_iret (v := v8) S hr rfl hlk hAe hw (⟨(upd pf104 12 z117), na99, ma81, wa82, rfl, (show (pf 11).toInt + 1 ≤ (pf104 11).toInt from by first | exact oz_aad75de018 e11 e107 e23 e85 e44 e64 e63.1 | omega), (show (pf104 11).toInt < (tf 6).toInt from by first | exact e108 | omega), (show (pf 13).toInt + 1 ≤ (pf104 13).toInt from by first | exact oz_0f2b28d9b8 e10 e111 e29 e87 e46 e68 | omega), (show (pf104 13).toInt - (pf 13).toInt ≤ (pf104 11).toInt - (pf 11).toInt from by first | exact oz_87fffc65d6 e10 e11 e107 e111 e23 e29 e88 e47 e64 e68 e63.1 | omega), (show bp ta (pf 11) + 1 ≤ bp ta (pf104 11) from by first | exact oz_a8afd67e66 qb181 e109 e25 e89 e26 e48 e66 e63.1 | omega), (show z117.toInt = (pf 12).toInt from by first | exact oz_f3d5d0e710 e12 tz117 e27 e110 e49 e90 e67 | omega), (show (pf104 24).toInt = (pf 24).toInt from by first | exact oz_a783471c71 e13 e112 e30 e91 e50 e69 | omega), (show (pf104 25).toInt = (pf 25).toInt from by first | exact oz_a783471c71 e14 e113 e31 e92 e51 e70 | omega), (show (pf104 26).toInt = (pf 26).toInt from by first | exact oz_a783471c71 e15 e114 e32 e93 e52 e71 | omega), (show FrB (pf 13).toInt na ma na99 ma81 from hfb), (show FrW (pf 26).toInt wa wa82 from hfw), (show VlS ta (tf 6).toInt na99 ma81 v8 (pf 13).toInt (pf104 13).toInt (3 * (bp ta (pf104 11) - bp ta (pf 11))) (200 - (pf 12).toInt) from (VlV.le (st_do (hi := (pf104 13).toInt) (D := (199 - (pf 12).toInt)) ⟨by omega, hf_14_v8, hf_15_v8, ⟨by omega, by omega⟩, hf_21_v8⟩ hf_17_v8 hf_18_v8 hf_19_v8 (by omega) (VlV.le hv_v43 (Int.le_refl _) (Int.le_refl _) (Int.le_refl _) (by omega)) (VlV.le (exr_vl ht_v84 (by omega)) (Int.le_refl _) (by omega) (Int.le_refl _) (by omega)) (by omega) (by omega)) (by omega) (by omega) (by omega) (by omega))), (show FsI (tf 6).toInt (pf104 13).toInt na99 from (FsI.le hfs (by omega))), (show R_mp_doing (RL_mp_statement lv) ta pf na ma wa (upd pf104 12 z117) na99 ma81 wa82 v8 0 from (Or.inl ⟨pf4, na5, ma6, v8, e17, Or.inr ⟨pf20, e33, Or.inr ⟨pf38, na39, ma40, wa41, v43, e57L, ma58, hu_ma58, pf60, v62, e72, Or.inr ⟨hndp73, Or.inr ⟨pf79, na80, ma81, wa82, v84, e98, na99, hu_na99, Or.inr ⟨pf104, e115, z117, ez117, rfl, rfl, rfl, rfl, rfl, rfl⟩⟩⟩⟩⟩⟩))⟩) d_Mpg_doing_62)
