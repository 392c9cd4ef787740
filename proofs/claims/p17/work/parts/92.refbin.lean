theorem oz_16e2368c72 {a0 a1 a2 a3 a4 a5 : Int} (h0 : a0 - a1 + a4 - a5 ≤ a2 - a3) (h1 : a5 ≤ a4) : a0 - a1 ≤ a2 - a3 := by omega
theorem oz_d4b6581a6b {a0 a1 a2 a3 a4 : Int} (h0 : a0 = a1 + a2 - a3) (h1 : a4 = a3) (h2 : a2 ≤ a4) (h3 : a3 ≤ a2) : a0 = a1 := by omega
theorem oz_a9d89419ed {a0 a1 a2 : Int} (h0 : a2 = a1) (h1 : a0 ≤ a2) (h2 : a1 ≤ a0) : a0 = a1 := by omega
theorem oz_bfcb9d5d2a {a0 a1 a2 : Int} (h0 : ¬ a0 ≤ a1) (h1 : 0 ≤ a2) (h2 : a1 = a2) : 1 ≤ a0 := by omega
theorem oz_0af2ac3337 {a0 a1 a2 a3 : Int} (h0 : a1 = a2 + a0 - a3) (h1 : a3 ≤ a2) (h2 : a1 ≤ 60) : a0 ≤ 260 := by omega
theorem oz_96577c7281 {a0 a1 a2 a3 a4 : Int} (h0 : a0 = a1 + a2 - a3) (h1 : 0 ≤ a3) (h2 : a3 ≤ a1) (h3 : a4 = a3) (h4 : ¬ a2 ≤ a4) : 1 ≤ a0 := by omega
theorem oz_d199ea808b {a0 a1 a2 a3 a4 a5 a6 a7 : Int} (h0 : a0 - a1 + a2 - a3 ≤ a4 - a5) (h1 : a1 ≤ a5 + 20) (h2 : a6 = a3) (h3 : a4 < a7) (h4 : ¬ a2 ≤ a6) (h5 : a7 ≤ 2049) : a0 < 2100 := by omega
theorem oz_ed756c8324 {n0 : Nat}  : 0 ≤ n0 := by omega
theorem oz_e9107e9c5e {a0 a1 a2 a3 : Int} (h0 : a2 = a0) (h1 : a1 = a3 - 1) (h2 : ¬ a3 ≤ a2) : a0 ≤ a1 := by omega
theorem oz_f0edb74643 {a0 a1 a2 a3 a4 a5 : Int} (h0 : a4 = a1 + a5 - a3) (h1 : a2 = a5 - 1) (h2 : a0 = a4 - 1) : a0 = a1 + a2 - a3 := by omega
theorem oz_bb3b55ee85 {a0 a1 : Int} (h0 : a0 = a1 - 1) (h1 : a1 ≤ 60) : a0 ≤ 60 := by omega
theorem oz_ad42535f91 {a0 a1 a2 a3 a4 a5 a6 a7 : Int} (h0 : a2 - a3 + a4 - a5 ≤ a6 - a0) (h1 : a1 = a6) (h2 : a7 = a5) (h3 : a3 + 1 ≤ a2) (h4 : ¬ a4 ≤ a7) : a0 + 1 ≤ a1 := by omega
theorem oz_df9e044d3c {a0 a1 a2 : Int} (h0 : a0 + 1 ≤ a2) (h1 : a2 ≤ a1) : a0 + 1 ≤ a1 := by omega
theorem oz_e31acd305d {a0 a1 a2 a3 a4 a5 a6 a7 a8 : Int} (h0 : a6 - a1 + a7 - a3 ≤ a8 - a5) (h1 : a2 = a7 - 1) (h2 : a0 ≤ a6 + 1) (h3 : a4 = a8) : a0 - a1 + a2 - a3 ≤ a4 - a5 := by omega
theorem oz_5cd8da6a50 {a0 a2 : Int} {n1 : Nat} (h0 : a2 < (n1 : Int)) (h1 : a0 = a2 - 1) : a0 < (n1 : Int) := by omega
theorem oz_f113337379 {a0 a1 a2 a3 : Int} (h0 : a0 = a1 + a2 - a3) (h1 : 0 ≤ a3) (h2 : a3 ≤ a1) (h3 : a3 ≤ a2) : 0 ≤ a0 := by omega
theorem oz_184ed96a99 {a0 a1 a2 : Int} (h0 : a0 = a1 + 1) (h1 : a2 + 1 ≤ a1) (h2 : 0 ≤ a2) : 0 ≤ a0 := by omega
theorem oz_af22f13c41 {a0 a1 a2 a3 a4 : Int} (h0 : a0 = a1 + 1) (h1 : a1 = a2 + a3 - a4) (h2 : 0 ≤ a4) (h3 : a4 ≤ a2) (h4 : a4 ≤ a3) : 0 ≤ a0 := by omega
theorem oz_0cb63e6fad {a0 a1 a2 : Int} (h0 : a0 = a1) (h1 : a2 + 1 ≤ a1) (h2 : 0 ≤ a2) : 0 ≤ a0 := by omega
theorem oz_8c0d4bf9ff {a0 a1 a2 a3 a4 a5 a6 a7 : Int} (h0 : a1 = a2 + 1) (h1 : a0 = a3) (h2 : a3 - a4 + a5 - a6 ≤ a2 - a7) (h3 : a4 ≤ a7 + 20) (h4 : a6 ≤ a5) : a0 ≤ a1 + 20 := by omega
theorem oz_5992a88438 {a0 a1 a2 a3 : Int} (h0 : a0 = a1 + (1 : Int)) (h1 : a1 = a2) (h2 : a3 ≤ a2) (h3 : 0 ≤ a3) : 0 ≤ a0 := by omega
theorem oz_6f93422adf {a0 a1 a2 a3 a4 a5 a6 : Int} (h0 : a1 = a2 + 1) (h1 : a0 = a3 + (1 : Int)) (h2 : a2 = a4 + a5 - a6) (h3 : a3 = a5) (h4 : a6 ≤ a4) : a0 ≤ a1 := by omega
theorem oz_9f95961918 {a0 a2 a3 a4 a5 : Int} {n1 : Nat} (h0 : 61 ≤ a2 + (n1 : Int)) (h1 : a0 = a3 + 1) (h2 : a3 = a2 + a4 - a5) (h3 : a5 ≤ a4) : 61 ≤ a0 + (n1 : Int) := by omega
theorem oz_06fa2c383c {a0 a1 a2 a3 : Int} (h0 : a1 + 1 ≤ a0) (h1 : a1 = a2 + 1) (h2 : 0 ≤ a3) (h3 : a3 + 1 ≤ a2) : 0 ≤ a0 := by omega
theorem oz_cd6c4c9ac0 {a0 a1 a2 a3 a4 : Int} (h0 : a0 ≤ a2) (h1 : a1 = a3) (h2 : a4 = a2) (h3 : a3 = a4 + (1 : Int)) : a0 ≤ a1 := by omega
theorem oz_9227a722d6 {a0 a1 a2 a3 a4 a5 a6 a7 a8 : Int} (h0 : a4 = a1 + a5 - a3) (h1 : a0 = a6) (h2 : a2 = a7) (h3 : a6 = a4 + 1) (h4 : a8 = a5) (h5 : a7 = a8 + (1 : Int)) : a0 = a1 + a2 - a3 := by omega
theorem oz_ffc6f0ebe6 {a0 a1 a2 a3 : Int} (h0 : a0 + 1 ≤ a2) (h1 : a3 + 1 ≤ a1) (h2 : a3 = a2 + 1) : a0 + 1 ≤ a1 := by omega
theorem oz_fab14cc7ba {a0 a1 a2 a3 : Int} (h0 : a0 + 1 ≤ a2) (h1 : a3 + 1 ≤ a1) (h2 : a3 = a2) : a0 + 1 ≤ a1 := by omega
theorem oz_e1398ad06f {a0 a1 a2 a3 a4 a5 a6 a7 a8 a9 a10 a11 a12 : Int} (h0 : a6 - a1 + a7 - a3 ≤ a8 - a5) (h1 : a0 - a9 ≤ a4 - a10) (h2 : a2 = a11) (h3 : a10 = a8 + 1) (h4 : a9 = a6) (h5 : a12 = a7) (h6 : a11 = a12 + (1 : Int)) : a0 - a1 + a2 - a3 ≤ a4 - a5 := by omega
theorem oz_81262f5537 {a0 a1 a3 a4 : Int} {n2 : Nat} (h0 : a0 - a3 < (n2 : Int) + 1) (h1 : a4 + 1 ≤ a1) (h2 : a4 = a3 + 1) : a0 - a1 < (n2 : Int) := by omega
theorem oz_18204f75de {a0 a1 a2 a3 a4 a5 : Int} (h0 : a0 = a1 - (1 : Int)) (h1 : ¬ a1 ≤ a2) (h2 : 0 ≤ a3) (h3 : a2 = a3) (h4 : a4 = a5 + a1 - a3) (h5 : a3 ≤ a5) (h6 : a4 ≤ 60) : 0 ≤ a0 ∧ a0 < ((700 : Nat) : Int) := by omega
theorem oz_350799c346 {a0 a1 a2 a3 a4 : Int} (h0 : a0 = a1 + a2 - a3) (h1 : 0 ≤ a3) (h2 : a3 ≤ a1) (h3 : a4 = a3) (h4 : ¬ a2 ≤ a4) : 0 ≤ a0 := by omega
theorem oz_95debe4d41 {a0 a1 a2 a3 a4 a5 : Int} (h0 : a0 = a1 + 1) (h1 : a1 = a2 + a3 - a4) (h2 : 0 ≤ a4) (h3 : a4 ≤ a2) (h4 : a5 = a4) (h5 : ¬ a3 ≤ a5) : 0 ≤ a0 := by omega
theorem oz_b32a0c3459 {a0 a1 a2 a3 a4 a5 a6 a7 a8 : Int} (h0 : a1 = a2 + 1) (h1 : a0 = a3) (h2 : a3 - a4 + a5 - a6 ≤ a2 - a7) (h3 : a4 ≤ a7 + 20) (h4 : a8 = a6) (h5 : ¬ a5 ≤ a8) : a0 ≤ a1 + 20 := by omega
theorem oz_4ddeb991d9 {a0 a1 a2 a3 a4 : Int} (h0 : a0 = a1 + (1 : Int)) (h1 : a1 = a2) (h2 : ¬ a2 ≤ a3) (h3 : 0 ≤ a4) (h4 : a3 = a4) : 0 ≤ a0 := by omega
theorem oz_1f685babc6 {a0 a2 a3 a4 a5 a6 : Int} {n1 : Nat} (h0 : 61 ≤ a2 + (n1 : Int)) (h1 : a0 = a3 + 1) (h2 : a3 = a2 + a4 - a5) (h3 : a6 = a5) (h4 : ¬ a4 ≤ a6) : 61 ≤ a0 + (n1 : Int) := by omega
theorem oz_2ddc036dee {a0 a1 a2 a3 a4 a5 : Int} (h0 : a2 = a0) (h1 : a1 = a3) (h2 : ¬ a4 ≤ a2) (h3 : a5 = a4) (h4 : a3 = a5 + (1 : Int)) : a0 ≤ a1 := by omega
theorem oz_a79b1a760c {a0 a1 a3 : Int} {n2 : Nat} (h0 : a0 - a3 < (n2 : Int) + 1) (h1 : a1 = a3) : a0 - a1 < (n2 : Int) + 1 := by omega
theorem oz_622ec16cd8 {a0 : Int} (h0 : ¬ a0 ≤ (0 : Int)) : 1 ≤ a0 := by omega
theorem oz_7d0af0eba3 {a0 a1 : Int} {n2 : Nat} (h0 : a0 - a1 < (n2 : Int)) : a0 - a1 < (n2 : Int) + 1 := by omega
theorem oz_5cc7a415c7 {a0 a1 a2 a3 : Int} (h0 : a0 = a1) (h1 : a2 = a3) : a0 = a1 + a2 - a3 := by omega
theorem oz_aee3b7f825 {a0 a1 a2 a3 a4 a5 : Int} (h0 : a0 - a1 ≤ a4 - a5) (h1 : a2 = a3) : a0 - a1 + a2 - a3 ≤ a4 - a5 := by omega
theorem m12_70 : Cond.methodLink "HomeSystemModel$Program" 427 ⟨"HomeSystemModel$Program", "settle", "(I)I"⟩ ∈ AL := AL_12 (List.mem_of_getElem? (i := 70) rfl) rfl
theorem m12_73 : Cond.code ⟨"HomeSystemModel$Program", "settle", "(I)I"⟩ prog_16_method_36_code 5 (Option.some FieldType.int) ∈ AL := AL_12 (List.mem_of_getElem? (i := 73) rfl) rfl
theorem ms_10_3 : Cond.selects "HomeSystemModel$Program" ⟨"HomeSystemModel$Program", "settle", "(I)I"⟩ ⟨"HomeSystemModel$Program", "settle", "(I)I"⟩ ∈ AL := AL_p (q := (⟨"HomeSystemModel$Program", "settle", "(I)I"⟩, 69)) (by unfold lw_privs; exact List.mem_append_right _ (List.mem_append_right _ (List.mem_append_right _ (List.mem_append_right _ (List.mem_append_right _ (List.mem_append_right _ (List.mem_append_right _ (List.mem_append_right _ (List.mem_append_right _ (List.mem_append_left _ (List.mem_of_getElem? (i := 3) rfl)))))))))))
theorem m12_72 : Cond.instanceMethod ⟨"HomeSystemModel$Program", "settle", "(I)I"⟩ ∈ AL := AL_12 (List.mem_of_getElem? (i := 72) rfl) rfl
theorem m12_19 : Cond.methodLink "HomeSystemModel$Program" 421 ⟨"HomeSystemModel$Program", "unary", "()I"⟩ ∈ AL := AL_12 (List.mem_of_getElem? (i := 19) rfl) rfl
theorem m12_22 : Cond.code ⟨"HomeSystemModel$Program", "unary", "()I"⟩ prog_16_method_38_code 6 (Option.some FieldType.int) ∈ AL := AL_12 (List.mem_of_getElem? (i := 22) rfl) rfl
theorem ms_9_7 : Cond.selects "HomeSystemModel$Program" ⟨"HomeSystemModel$Program", "unary", "()I"⟩ ⟨"HomeSystemModel$Program", "unary", "()I"⟩ ∈ AL := AL_p (q := (⟨"HomeSystemModel$Program", "unary", "()I"⟩, 69)) (by unfold lw_privs; exact List.mem_append_right _ (List.mem_append_right _ (List.mem_append_right _ (List.mem_append_right _ (List.mem_append_right _ (List.mem_append_right _ (List.mem_append_right _ (List.mem_append_right _ (List.mem_append_left _ (List.mem_of_getElem? (i := 7) rfl))))))))))
theorem m12_21 : Cond.instanceMethod ⟨"HomeSystemModel$Program", "unary", "()I"⟩ ∈ AL := AL_12 (List.mem_of_getElem? (i := 21) rfl) rfl
theorem m12_66 : Cond.methodLink "HomeSystemModel$Program" 424 ⟨"HomeSystemModel$Program", "rank", "(I)I"⟩ ∈ AL := AL_12 (List.mem_of_getElem? (i := 66) rfl) rfl
theorem m12_69 : Cond.code ⟨"HomeSystemModel$Program", "rank", "(I)I"⟩ prog_16_method_28_code 4 (Option.some FieldType.int) ∈ AL := AL_12 (List.mem_of_getElem? (i := 69) rfl) rfl
theorem ms_10_2 : Cond.selects "HomeSystemModel$Program" ⟨"HomeSystemModel$Program", "rank", "(I)I"⟩ ⟨"HomeSystemModel$Program", "rank", "(I)I"⟩ ∈ AL := AL_p (q := (⟨"HomeSystemModel$Program", "rank", "(I)I"⟩, 69)) (by unfold lw_privs; exact List.mem_append_right _ (List.mem_append_right _ (List.mem_append_right _ (List.mem_append_right _ (List.mem_append_right _ (List.mem_append_right _ (List.mem_append_right _ (List.mem_append_right _ (List.mem_append_right _ (List.mem_append_left _ (List.mem_of_getElem? (i := 2) rfl)))))))))))
theorem m12_68 : Cond.instanceMethod ⟨"HomeSystemModel$Program", "rank", "(I)I"⟩ ∈ AL := AL_12 (List.mem_of_getElem? (i := 68) rfl) rfl
abbrev b_Mpg_binary : ByteArray := prog_16_method_37_code
def y_Mpg_binary : MethodName := ⟨"HomeSystemModel$Program", "binary", "()I"⟩
theorem d_Mpg_binary_0 : decode b_Mpg_binary 0 = .ok (.aload_n 0, 1) := by decide +kernel
theorem d_Mpg_binary_1 : decode b_Mpg_binary 1 = .ok (.getfield 415, 3) := by decide +kernel
theorem d_Mpg_binary_4 : decode b_Mpg_binary 4 = .ok (.istore_n 1, 1) := by decide +kernel
theorem d_Mpg_binary_5 : decode b_Mpg_binary 5 = .ok (.aload_n 0, 1) := by decide +kernel
theorem d_Mpg_binary_6 : decode b_Mpg_binary 6 = .ok (.invokevirtual 421, 3) := by decide +kernel
theorem d_Mpg_binary_9 : decode b_Mpg_binary 9 = .ok (.istore_n 2, 1) := by decide +kernel
theorem d_Mpg_binary_10 : decode b_Mpg_binary 10 = .ok (.iconst 1, 1) := by decide +kernel
theorem d_Mpg_binary_11 : decode b_Mpg_binary 11 = .ok (.istore_n 3, 1) := by decide +kernel
theorem d_Mpg_binary_12 : decode b_Mpg_binary 12 = .ok (.aload_n 0, 1) := by decide +kernel
theorem d_Mpg_binary_13 : decode b_Mpg_binary 13 = .ok (.aload_n 0, 1) := by decide +kernel
theorem d_Mpg_binary_14 : decode b_Mpg_binary 14 = .ok (.getfield 360, 3) := by decide +kernel
theorem d_Mpg_binary_17 : decode b_Mpg_binary 17 = .ok (.invokevirtual 424, 3) := by decide +kernel
theorem d_Mpg_binary_20 : decode b_Mpg_binary 20 = .ok (.istore 4, 2) := by decide +kernel
theorem d_Mpg_binary_22 : decode b_Mpg_binary 22 = .ok (.iload 4, 2) := by decide +kernel
theorem d_Mpg_binary_24 : decode b_Mpg_binary 24 = .ok (.ifCond .le 109, 3) := by decide +kernel
theorem d_Mpg_binary_27 : decode b_Mpg_binary 27 = .ok (.iconst 0, 1) := by decide +kernel
theorem d_Mpg_binary_28 : decode b_Mpg_binary 28 = .ok (.istore_n 3, 1) := by decide +kernel
theorem d_Mpg_binary_29 : decode b_Mpg_binary 29 = .ok (.aload_n 0, 1) := by decide +kernel
theorem d_Mpg_binary_30 : decode b_Mpg_binary 30 = .ok (.getfield 415, 3) := by decide +kernel
theorem d_Mpg_binary_33 : decode b_Mpg_binary 33 = .ok (.iload_n 1, 1) := by decide +kernel
theorem d_Mpg_binary_34 : decode b_Mpg_binary 34 = .ok (.if_icmp .le 28, 3) := by decide +kernel
theorem d_Mpg_binary_37 : decode b_Mpg_binary 37 = .ok (.aload_n 0, 1) := by decide +kernel
theorem d_Mpg_binary_38 : decode b_Mpg_binary 38 = .ok (.getfield 237, 3) := by decide +kernel
theorem d_Mpg_binary_41 : decode b_Mpg_binary 41 = .ok (.aload_n 0, 1) := by decide +kernel
theorem d_Mpg_binary_42 : decode b_Mpg_binary 42 = .ok (.getfield 415, 3) := by decide +kernel
theorem d_Mpg_binary_45 : decode b_Mpg_binary 45 = .ok (.iconst 1, 1) := by decide +kernel
theorem d_Mpg_binary_46 : decode b_Mpg_binary 46 = .ok (.isub, 1) := by decide +kernel
theorem d_Mpg_binary_47 : decode b_Mpg_binary 47 = .ok (.iaload, 1) := by decide +kernel
theorem d_Mpg_binary_48 : decode b_Mpg_binary 48 = .ok (.iload 4, 2) := by decide +kernel
theorem d_Mpg_binary_50 : decode b_Mpg_binary 50 = .ok (.if_icmp .lt 12, 3) := by decide +kernel
theorem d_Mpg_binary_53 : decode b_Mpg_binary 53 = .ok (.aload_n 0, 1) := by decide +kernel
theorem d_Mpg_binary_54 : decode b_Mpg_binary 54 = .ok (.iload_n 2, 1) := by decide +kernel
theorem d_Mpg_binary_55 : decode b_Mpg_binary 55 = .ok (.invokevirtual 427, 3) := by decide +kernel
theorem d_Mpg_binary_58 : decode b_Mpg_binary 58 = .ok (.istore_n 2, 1) := by decide +kernel
theorem d_Mpg_binary_59 : decode b_Mpg_binary 59 = .ok (.goto (-30), 3) := by decide +kernel
theorem d_Mpg_binary_62 : decode b_Mpg_binary 62 = .ok (.aload_n 0, 1) := by decide +kernel
theorem d_Mpg_binary_63 : decode b_Mpg_binary 63 = .ok (.getfield 237, 3) := by decide +kernel
theorem d_Mpg_binary_66 : decode b_Mpg_binary 66 = .ok (.aload_n 0, 1) := by decide +kernel
theorem d_Mpg_binary_67 : decode b_Mpg_binary 67 = .ok (.getfield 415, 3) := by decide +kernel
theorem d_Mpg_binary_70 : decode b_Mpg_binary 70 = .ok (.iload 4, 2) := by decide +kernel
theorem d_Mpg_binary_72 : decode b_Mpg_binary 72 = .ok (.iastore, 1) := by decide +kernel
theorem d_Mpg_binary_73 : decode b_Mpg_binary 73 = .ok (.aload_n 0, 1) := by decide +kernel
theorem d_Mpg_binary_74 : decode b_Mpg_binary 74 = .ok (.getfield 240, 3) := by decide +kernel
theorem d_Mpg_binary_77 : decode b_Mpg_binary 77 = .ok (.aload_n 0, 1) := by decide +kernel
theorem d_Mpg_binary_78 : decode b_Mpg_binary 78 = .ok (.getfield 415, 3) := by decide +kernel
theorem d_Mpg_binary_81 : decode b_Mpg_binary 81 = .ok (.aload_n 0, 1) := by decide +kernel
theorem d_Mpg_binary_82 : decode b_Mpg_binary 82 = .ok (.getfield 360, 3) := by decide +kernel
theorem d_Mpg_binary_85 : decode b_Mpg_binary 85 = .ok (.iastore, 1) := by decide +kernel
theorem d_Mpg_binary_86 : decode b_Mpg_binary 86 = .ok (.aload_n 0, 1) := by decide +kernel
theorem d_Mpg_binary_87 : decode b_Mpg_binary 87 = .ok (.getfield 243, 3) := by decide +kernel
theorem d_Mpg_binary_90 : decode b_Mpg_binary 90 = .ok (.aload_n 0, 1) := by decide +kernel
theorem d_Mpg_binary_91 : decode b_Mpg_binary 91 = .ok (.getfield 415, 3) := by decide +kernel
theorem d_Mpg_binary_94 : decode b_Mpg_binary 94 = .ok (.iload_n 2, 1) := by decide +kernel
theorem d_Mpg_binary_95 : decode b_Mpg_binary 95 = .ok (.iastore, 1) := by decide +kernel
theorem d_Mpg_binary_96 : decode b_Mpg_binary 96 = .ok (.aload_n 0, 1) := by decide +kernel
theorem d_Mpg_binary_97 : decode b_Mpg_binary 97 = .ok (.iload_n 2, 1) := by decide +kernel
theorem d_Mpg_binary_98 : decode b_Mpg_binary 98 = .ok (.invokevirtual 400, 3) := by decide +kernel
theorem d_Mpg_binary_101 : decode b_Mpg_binary 101 = .ok (.aload_n 0, 1) := by decide +kernel
theorem d_Mpg_binary_102 : decode b_Mpg_binary 102 = .ok (.invokevirtual 383, 3) := by decide +kernel
theorem d_Mpg_binary_105 : decode b_Mpg_binary 105 = .ok (.aload_n 0, 1) := by decide +kernel
theorem d_Mpg_binary_106 : decode b_Mpg_binary 106 = .ok (.dup, 1) := by decide +kernel
theorem d_Mpg_binary_107 : decode b_Mpg_binary 107 = .ok (.getfield 415, 3) := by decide +kernel
theorem d_Mpg_binary_110 : decode b_Mpg_binary 110 = .ok (.iconst 1, 1) := by decide +kernel
theorem d_Mpg_binary_111 : decode b_Mpg_binary 111 = .ok (.iadd, 1) := by decide +kernel
theorem d_Mpg_binary_112 : decode b_Mpg_binary 112 = .ok (.putfield 415, 3) := by decide +kernel
theorem d_Mpg_binary_115 : decode b_Mpg_binary 115 = .ok (.aload_n 0, 1) := by decide +kernel
theorem d_Mpg_binary_116 : decode b_Mpg_binary 116 = .ok (.invokevirtual 421, 3) := by decide +kernel
theorem d_Mpg_binary_119 : decode b_Mpg_binary 119 = .ok (.istore_n 2, 1) := by decide +kernel
theorem d_Mpg_binary_120 : decode b_Mpg_binary 120 = .ok (.aload_n 0, 1) := by decide +kernel
theorem d_Mpg_binary_121 : decode b_Mpg_binary 121 = .ok (.aload_n 0, 1) := by decide +kernel
theorem d_Mpg_binary_122 : decode b_Mpg_binary 122 = .ok (.getfield 360, 3) := by decide +kernel
theorem d_Mpg_binary_125 : decode b_Mpg_binary 125 = .ok (.invokevirtual 424, 3) := by decide +kernel
theorem d_Mpg_binary_128 : decode b_Mpg_binary 128 = .ok (.istore 4, 2) := by decide +kernel
theorem d_Mpg_binary_130 : decode b_Mpg_binary 130 = .ok (.goto (-108), 3) := by decide +kernel
theorem d_Mpg_binary_133 : decode b_Mpg_binary 133 = .ok (.aload_n 0, 1) := by decide +kernel
theorem d_Mpg_binary_134 : decode b_Mpg_binary 134 = .ok (.getfield 415, 3) := by decide +kernel
theorem d_Mpg_binary_137 : decode b_Mpg_binary 137 = .ok (.iload_n 1, 1) := by decide +kernel
theorem d_Mpg_binary_138 : decode b_Mpg_binary 138 = .ok (.if_icmp .le 12, 3) := by decide +kernel
theorem d_Mpg_binary_141 : decode b_Mpg_binary 141 = .ok (.aload_n 0, 1) := by decide +kernel
theorem d_Mpg_binary_142 : decode b_Mpg_binary 142 = .ok (.iload_n 2, 1) := by decide +kernel
theorem d_Mpg_binary_143 : decode b_Mpg_binary 143 = .ok (.invokevirtual 427, 3) := by decide +kernel
theorem d_Mpg_binary_146 : decode b_Mpg_binary 146 = .ok (.istore_n 2, 1) := by decide +kernel
theorem d_Mpg_binary_147 : decode b_Mpg_binary 147 = .ok (.goto (-14), 3) := by decide +kernel
theorem d_Mpg_binary_150 : decode b_Mpg_binary 150 = .ok (.iload_n 3, 1) := by decide +kernel
theorem d_Mpg_binary_151 : decode b_Mpg_binary 151 = .ok (.ifCond .eq 9, 3) := by decide +kernel
theorem d_Mpg_binary_154 : decode b_Mpg_binary 154 = .ok (.iconst (-1), 1) := by decide +kernel
theorem d_Mpg_binary_155 : decode b_Mpg_binary 155 = .ok (.iload_n 2, 1) := by decide +kernel
theorem d_Mpg_binary_156 : decode b_Mpg_binary 156 = .ok (.isub, 1) := by decide +kernel
theorem d_Mpg_binary_157 : decode b_Mpg_binary 157 = .ok (.goto 4, 3) := by decide +kernel
theorem d_Mpg_binary_160 : decode b_Mpg_binary 160 = .ok (.iload_n 2, 1) := by decide +kernel
theorem d_Mpg_binary_161 : decode b_Mpg_binary 161 = .ok (.ireturn, 1) := by decide +kernel
theorem q_Mpg_binary : px_y y_Mpg_binary 0 := by unfold px_y; decide +kernel
set_option maxHeartbeats 4000000 in
set_option maxRecDepth 100000 in
theorem c_mp_binary (l : Launch) (D : va_G) (cs : Nat → ClassId) (h : Nat) (r : Nat → Nat) (g : Nat → Nat → Option Nat) (tf : Nat → Int32) (ta : Nat → Nat → Int32) (cf : Nat → Int32) (ca : Nat → Nat → Int32) (ef : Nat → Int32) (ea : Nat → Nat → Int32) (xf : Nat → Int32) (xa : Nat → Nat → Int32) (pf : Nat → Int32) (na : Nat → Nat → Int32) (ma : Nat → Nat → Int32) (wa : Nat → Nat → Int32) (lv : Nat) (g0 : 0 ≤ (pf 11).toInt) (g1 : (pf 11).toInt < (tf 6).toInt) (g2 : (tf 6).toInt ≤ 2049) (g3 : 0 ≤ (pf 12).toInt) (g4 : (pf 12).toInt ≤ 60) (g5 : 0 ≤ (pf 13).toInt) (g6 : (pf 13).toInt ≤ (pf 11).toInt + 20) (g7 : 0 ≤ (pf 26).toInt) (g8 : (pf 26).toInt ≤ (pf 12).toInt) (g9 : 61 ≤ (pf 12).toInt + (lv : Int)) (g10 : lv ≤ 61) (hlf : l.flags = pinnedFlags ++ [noTraceFlag]) (htk : TkI tf ta) (hfs : FsI (tf 6).toInt (pf 13).toInt na) (hE : LvE l D cs lv) : ThI l y_Mpg_binary b_Mpg_binary 5 (.int) D cs (8 * lv + 18) (220 * lv + 660) [.ref h] [wdP cs h r g tf ta pf na ma wa cf ca ef ea xf xa] (oX (fun A U H => (oN A U H) ∧ (oP A g U H)) [wdP cs h r g tf ta pf na ma wa cf ca ef ea xf xa]) "java/lang/IllegalArgumentException" (fun v ps => ∃ (pf' : Nat → Int32) (na' : Nat → Nat → Int32) (ma' : Nat → Nat → Int32) (wa' : Nat → Nat → Int32), (ps = [wdP cs h r g tf ta pf' na' ma' wa' cf ca ef ea xf xa]) ∧ ((pf 11).toInt + 1 ≤ (pf' 11).toInt) ∧ ((pf' 11).toInt < (tf 6).toInt) ∧ ((pf 13).toInt + 1 ≤ (pf' 13).toInt) ∧ ((pf' 13).toInt - (pf 13).toInt ≤ (pf' 11).toInt - (pf 11).toInt) ∧ (bp ta (pf 11) + 1 ≤ bp ta (pf' 11)) ∧ ((pf' 12).toInt = (pf 12).toInt) ∧ ((pf' 24).toInt = (pf 24).toInt) ∧ ((pf' 25).toInt = (pf 25).toInt) ∧ ((pf' 26).toInt = (pf 26).toInt) ∧ (FrB (pf 13).toInt na ma na' ma') ∧ (FrW (pf 26).toInt wa wa') ∧ (ExD ta (tf 6).toInt na' ma' v (pf 13).toInt (pf' 13).toInt (3 * (bp ta (pf' 11) - bp ta (pf 11))) (pf 12).toInt) ∧ (FsI (tf 6).toInt (pf' 13).toInt na')) (fun ps => ∃ (pf' : Nat → Int32) (na' : Nat → Nat → Int32) (ma' : Nat → Nat → Int32) (wa' : Nat → Nat → Int32), ps = [wdP cs h r g tf ta pf' na' ma' wa' cf ca ef ea xf xa] ∧ 0 ≤ (pf' 11).toInt ∧ (pf' 11).toInt + 1 ≤ (tf 6).toInt) := by
  refine th_enter (by decide) (Nat.le_of_ble_eq_true rfl) ?_
  intro p e s m below meth c A ls hAe S hr hlk hnm hA hT hX hw hl hne hadm
  have hl : lv_has ls 5 [(0, .ref h)] := hl
  have cstm1 : ((-1) : Int32).toInt = (-1) := rfl
  have cst0 : (0 : Int32).toInt = 0 := rfl
  have cst1 : (1 : Int32).toInt = 1 := rfl
  have hX : (fun A U H => (oN A U H) ∧ (oP A g U H)) A s s.heap := by rw [hAe]; exact hX
  obtain ⟨hN, hP⟩ := hX
  have hZ := hP.1
  have hF0 := hP.2.1
  have hfb : FrB (pf 13).toInt na ma na ma := FrB.rf
  have hfw : FrW (pf 26).toInt wa wa := FrW.rf
  have J133 : ∀ (n_133 : Nat) (pf_133 : Nat → Int32) (na_133 : Nat → Nat → Int32) (ma_133 : Nat → Nat → Int32) (wa_133 : Nat → Nat → Int32) (x133_1 x133_2 x133_3 : Int32) (H : Heap) (locs : List Loc) (ls : Array Slot), ((pf_133 24).toInt = (pf 24).toInt) → ((pf_133 25).toInt = (pf 25).toInt) → (x133_1.toInt = (pf 26).toInt) → ((pf 26).toInt ≤ (pf_133 26).toInt) → ((pf_133 12).toInt = (pf 12).toInt + (pf_133 26).toInt - (pf 26).toInt) → ((pf_133 12).toInt ≤ 60) → ((pf 11).toInt + 1 ≤ (pf_133 11).toInt) → ((pf_133 11).toInt < (tf 6).toInt) → ((pf 13).toInt + 1 ≤ (pf_133 13).toInt) → ((pf_133 13).toInt - (pf 13).toInt + (pf_133 26).toInt - (pf 26).toInt ≤ (pf_133 11).toInt - (pf 11).toInt) → (bp ta (pf 11) + 1 ≤ bp ta (pf_133 11)) → (0 ≤ x133_3.toInt) → (x133_3.toInt ≤ 1) → (FrB (pf 13).toInt na ma na_133 ma_133) → (FrW (pf 26).toInt wa wa_133) → (BinV ta (tf 6).toInt na_133 ma_133 wa_133 (pf 26).toInt (pf 12).toInt ((pf_133 26).toInt - (pf 26).toInt) x133_2 (pf 13).toInt (pf_133 13).toInt (3 * (bp ta (pf_133 11) - bp ta (pf 11)))) → (FsI (tf 6).toInt (pf_133 13).toInt na_133) → (pf_133 26).toInt < (n_133 : Int) → pw D A s.heap H locs [wdP cs h r g tf ta pf_133 na_133 ma_133 wa_133 cf ca ef ea xf xa] → lv_has ls 5 [(0, .ref h), (1, .int x133_1), (2, .int x133_2), (3, .int x133_3)] → W p l e { frames := (8 * lv + 18), cells := 1, slots := 6, locals := (220 * lv + 660) } s m [.ref h].toArray below meth c H locs 0 0 (tx_MQ below (thQi D (va_A ([wdP cs h r g tf ta pf na ma wa cf ca ef ea xf xa] : List va_W).flatten s.heap.size) "java/lang/IllegalArgumentException" (fun v ps => ∃ (pf' : Nat → Int32) (na' : Nat → Nat → Int32) (ma' : Nat → Nat → Int32) (wa' : Nat → Nat → Int32), (ps = [wdP cs h r g tf ta pf' na' ma' wa' cf ca ef ea xf xa]) ∧ ((pf 11).toInt + 1 ≤ (pf' 11).toInt) ∧ ((pf' 11).toInt < (tf 6).toInt) ∧ ((pf 13).toInt + 1 ≤ (pf' 13).toInt) ∧ ((pf' 13).toInt - (pf 13).toInt ≤ (pf' 11).toInt - (pf 11).toInt) ∧ (bp ta (pf 11) + 1 ≤ bp ta (pf' 11)) ∧ ((pf' 12).toInt = (pf 12).toInt) ∧ ((pf' 24).toInt = (pf 24).toInt) ∧ ((pf' 25).toInt = (pf 25).toInt) ∧ ((pf' 26).toInt = (pf 26).toInt) ∧ (FrB (pf 13).toInt na ma na' ma') ∧ (FrW (pf 26).toInt wa wa') ∧ (ExD ta (tf 6).toInt na' ma' v (pf 13).toInt (pf' 13).toInt (3 * (bp ta (pf' 11) - bp ta (pf 11))) (pf 12).toInt) ∧ (FsI (tf 6).toInt (pf' 13).toInt na')) (fun ps => ∃ (pf' : Nat → Int32) (na' : Nat → Nat → Int32) (ma' : Nat → Nat → Int32) (wa' : Nat → Nat → Int32), ps = [wdP cs h r g tf ta pf' na' ma' wa' cf ca ef ea xf xa] ∧ 0 ≤ (pf' 11).toInt ∧ (pf' 11).toInt + 1 ≤ (tf 6).toInt) s.heap.size (tot s.heap)) [.ref h].toArray s 1 6 A) (F0 m 133 ls []) := by
    intro  n_133
    induction n_133 with
    | zero =>
      intro pf_133 na_133 ma_133 wa_133 x133_1 x133_2 x133_3 H locs ls k133_0 k133_1 k133_2 k133_3 k133_4 k133_5 k133_6 k133_7 k133_8 k133_9 k133_10 k133_11 k133_12 k133_13 k133_14 k133_15 k133_16 hm hw hl
      have lx133_1 := Int32.le_toInt x133_1
      have ux133_1 := Int32.toInt_lt x133_1
      have lx133_2 := Int32.le_toInt x133_2
      have ux133_2 := Int32.toInt_lt x133_2
      have lx133_3 := Int32.le_toInt x133_3
      have ux133_3 := Int32.toInt_lt x133_3
      have hfb := k133_13
      have hfw := k133_14
      obtain ⟨m2, W1, Wr, hws, ht_x133_2, hWW⟩ := k133_15
      have hn_ht_x133_2 := ht_x133_2.num
      have hwr := hws.rng
      have hw2 := ht_x133_2.wpos
      have hfs := k133_16
      exact absurd hm (by first | with_reducible rfl | with_reducible assumption | omega)
    | succ n_133 ih133 =>
      intro pf_133 na_133 ma_133 wa_133 x133_1 x133_2 x133_3 H locs ls k133_0 k133_1 k133_2 k133_3 k133_4 k133_5 k133_6 k133_7 k133_8 k133_9 k133_10 k133_11 k133_12 k133_13 k133_14 k133_15 k133_16 hm hw hl
      have lx133_1 := Int32.le_toInt x133_1
      have ux133_1 := Int32.toInt_lt x133_1
      have lx133_2 := Int32.le_toInt x133_2
      have ux133_2 := Int32.toInt_lt x133_2
      have lx133_3 := Int32.le_toInt x133_3
      have ux133_3 := Int32.toInt_lt x133_3
      have hfb := k133_13
      have hfw := k133_14
      obtain ⟨m2, W1, Wr, hws, ht_x133_2, hWW⟩ := k133_15
      have hn_ht_x133_2 := ht_x133_2.num
      have hwr := hws.rng
      have hw2 := ht_x133_2.wpos
      have hfs := k133_16
      refine lv_aload_n S.x S.b d_Mpg_binary_133 rfl (lv_at hl 0 rfl) ?_
      refine px_get S k_Mpg hT hw 0 0 26 (v := .int (pf_133 26)) rfl rfl rfl (by decide) m10_14 d_Mpg_binary_134 ?_
      refine lv_iload_n S.x S.b d_Mpg_binary_137 rfl (lv_at hl 1 rfl) ?_
      refine lv_icmp_le (tgt := 150) S.x S.b d_Mpg_binary_138 (by decide) (fun c1 => ?_) (fun c1 => ?_)
      · have nc1 : (pf_133 26).toInt ≤ x133_1.toInt := (i_le (x := (pf_133 26)) (y := x133_1)).mp c1
        refine lv_iload_n S.x S.b d_Mpg_binary_150 rfl (lv_at hl 3 rfl) ?_
        refine lv_if_eq (tgt := 160) S.x S.b d_Mpg_binary_151 (by decide) (fun c2 => ?_) (fun c2 => ?_)
        · have nc2 : x133_3.toInt = (0 : Int) := (i_eq (x := x133_3) (y := 0)).mp c2
          refine lv_iload_n S.x S.b d_Mpg_binary_160 rfl (lv_at hl 2 rfl) ?_
          exact th_iret (v := x133_2) S hr rfl hlk hAe hw (⟨pf_133, na_133, ma_133, wa_133, rfl, (show (pf 11).toInt + 1 ≤ (pf_133 11).toInt from by first | exact k133_6 | omega), (show (pf_133 11).toInt < (tf 6).toInt from by first | exact k133_7 | omega), (show (pf 13).toInt + 1 ≤ (pf_133 13).toInt from by first | exact k133_8 | omega), (show (pf_133 13).toInt - (pf 13).toInt ≤ (pf_133 11).toInt - (pf 11).toInt from by first | exact oz_16e2368c72 k133_9 k133_3 | omega), (show bp ta (pf 11) + 1 ≤ bp ta (pf_133 11) from by first | exact k133_10 | omega), (show (pf_133 12).toInt = (pf 12).toInt from by first | exact oz_d4b6581a6b k133_4 k133_2 nc1 k133_3 | omega), (show (pf_133 24).toInt = (pf 24).toInt from by first | exact k133_0 | omega), (show (pf_133 25).toInt = (pf 25).toInt from by first | exact k133_1 | omega), (show (pf_133 26).toInt = (pf 26).toInt from by first | exact oz_a9d89419ed k133_2 nc1 k133_3 | omega), (show FrB (pf 13).toInt na ma na_133 ma_133 from hfb), (show FrW (pf 26).toInt wa wa_133 from hfw), (show ExD ta (tf 6).toInt na_133 ma_133 x133_2 (pf 13).toInt (pf_133 13).toInt (3 * (bp ta (pf_133 11) - bp ta (pf 11))) (pf 12).toInt from (exd_of (ExR.le ht_x133_2 (by first | with_reducible rfl | with_reducible assumption | omega) (by first | with_reducible rfl | with_reducible assumption | omega) (by first | with_reducible rfl | with_reducible assumption | omega) (by first | with_reducible rfl | with_reducible assumption | omega)) (by first | with_reducible rfl | with_reducible assumption | omega))), (show FsI (tf 6).toInt (pf_133 13).toInt na_133 from (FsI.le hfs (by first | with_reducible rfl | with_reducible assumption | omega)))⟩) d_Mpg_binary_161
        · have nc2 : ¬ x133_3.toInt = (0 : Int) := mt (i_eq (x := x133_3) (y := 0)).mpr c2
          refine lv_iconst (v := (-1)) S.x S.b d_Mpg_binary_154 (by decide) ?_
          refine lv_iload_n S.x S.b d_Mpg_binary_155 rfl (lv_at hl 2 rfl) ?_
          refine lv_isub S.x S.b d_Mpg_binary_156 ?_
          refine lv_topi (fun z3 ez3 => ?_)
          have tz3 : z3.toInt = ((-1 : Int) - x133_2.toInt + 2147483648) % 4294967296 - 2147483648 := by rw [ez3]; exact i_sub (-1) x133_2
          have lz3 := Int32.le_toInt z3
          have uz3 := Int32.toInt_lt z3
          try replace tz3 : z3.toInt = (-1 : Int) - x133_2.toInt := by omega
          refine lv_goto (tgt := 161) S.x S.b d_Mpg_binary_157 (by decide) ?_
          exact th_iret (v := z3) S hr rfl hlk hAe hw (⟨pf_133, na_133, ma_133, wa_133, rfl, (show (pf 11).toInt + 1 ≤ (pf_133 11).toInt from by first | exact k133_6 | omega), (show (pf_133 11).toInt < (tf 6).toInt from by first | exact k133_7 | omega), (show (pf 13).toInt + 1 ≤ (pf_133 13).toInt from by first | exact k133_8 | omega), (show (pf_133 13).toInt - (pf 13).toInt ≤ (pf_133 11).toInt - (pf 11).toInt from by first | exact oz_16e2368c72 k133_9 k133_3 | omega), (show bp ta (pf 11) + 1 ≤ bp ta (pf_133 11) from by first | exact k133_10 | omega), (show (pf_133 12).toInt = (pf 12).toInt from by first | exact oz_d4b6581a6b k133_4 k133_2 nc1 k133_3 | omega), (show (pf_133 24).toInt = (pf 24).toInt from by first | exact k133_0 | omega), (show (pf_133 25).toInt = (pf 25).toInt from by first | exact k133_1 | omega), (show (pf_133 26).toInt = (pf 26).toInt from by first | exact oz_a9d89419ed k133_2 nc1 k133_3 | omega), (show FrB (pf 13).toInt na ma na_133 ma_133 from hfb), (show FrW (pf 26).toInt wa wa_133 from hfw), (show ExD ta (tf 6).toInt na_133 ma_133 z3 (pf 13).toInt (pf_133 13).toInt (3 * (bp ta (pf_133 11) - bp ta (pf 11))) (pf 12).toInt from (exd_neg (ExR.le ht_x133_2 (by first | with_reducible rfl | with_reducible assumption | omega) (by first | with_reducible rfl | with_reducible assumption | omega) (by first | with_reducible rfl | with_reducible assumption | omega) (by first | with_reducible rfl | with_reducible assumption | omega)) (by first | with_reducible rfl | with_reducible assumption | omega) (by first | with_reducible rfl | with_reducible assumption | omega))), (show FsI (tf 6).toInt (pf_133 13).toInt na_133 from (FsI.le hfs (by first | with_reducible rfl | with_reducible assumption | omega)))⟩) d_Mpg_binary_161
      · have nc1 : ¬ (pf_133 26).toInt ≤ x133_1.toInt := mt (i_le (x := (pf_133 26)) (y := x133_1)).mpr c1
        refine lv_aload_n S.x S.b d_Mpg_binary_141 rfl (lv_at hl 0 rfl) ?_
        refine lv_iload_n S.x S.b d_Mpg_binary_142 rfl (lv_at hl 2 rfl) ?_
        obtain ⟨lo, W0, Wl, X, a, rk, tk, hwsT, htopT, hxaT, hdpT, hrkT, htkT, hWT, hloT⟩ := hws.top (by first | with_reducible rfl | with_reducible assumption | omega); have hws := hwsT; have hwA := hxaT.wpos; have hnA := hxaT.num
        refine px_calli (pr := []) (px_runV (As := [.int x133_2]) (rest := []) S (c_mp_settle l D cs h r g tf ta wa_133 cf ca ef ea xf xa pf_133 na_133 ma_133 x133_2 a rk tk lo m2 Wl Wr X (show (tf 6).toInt ≤ 2049 from by first | exact g2 | omega) (show 1 ≤ (pf_133 26).toInt from by first | exact oz_bfcb9d5d2a nc1 g7 k133_2 | omega) (show (pf_133 26).toInt ≤ 260 from by first | exact oz_0af2ac3337 k133_4 g8 k133_5 | omega) (show 1 ≤ (pf_133 12).toInt from by first | exact oz_96577c7281 k133_4 g7 g8 k133_2 nc1 | omega) (show (pf_133 12).toInt ≤ 60 from by first | exact k133_5 | omega) (show 0 ≤ (pf_133 13).toInt from by first | exact oz_06d7f15a5c k133_8 g5 | omega) (show (pf_133 13).toInt < 2100 from by first | exact oz_d199ea808b k133_9 g6 k133_2 k133_7 nc1 g2 | omega) (show 0 ≤ lo from by first | exact oz_ed756c8324 | omega) (show 1 ≤ rk.toInt from by first | with_reducible rfl | with_reducible assumption | omega) (show rk.toInt ≤ 10 from by first | with_reducible rfl | with_reducible assumption | omega) (show 0 ≤ tk.toInt from by first | with_reducible rfl | with_reducible assumption | omega) (show tk.toInt < (tf 6).toInt from by first | with_reducible rfl | with_reducible assumption | omega) (show so ta tk = 5 from by first | with_reducible rfl | with_reducible assumption | omega) (show dp na_133 a + (pf_133 12).toInt - 1 < 60 from by first | with_reducible rfl | with_reducible assumption | omega) (show 0 ≤ X from by first | exact oz_ed756c8324 | omega) htk (FsI.le (N' := (pf_133 13).toInt) hfs (by first | with_reducible rfl | with_reducible assumption | omega)) hWT.1 (top_eq htopT (by first | with_reducible rfl | with_reducible assumption | omega)) (ExR.le hxaT (Int.le_refl _) (Int.le_refl _) (Int.le_refl _) (by first | with_reducible rfl | with_reducible assumption | omega)) (ExR.le ht_x133_2 (Int.le_refl _) (by first | with_reducible rfl | with_reducible assumption | omega) (Int.le_refl _) (by first | with_reducible rfl | with_reducible assumption | omega)) _) hT (pr := []) (pcs := [wdP cs h r g tf ta pf_133 na_133 ma_133 wa_133 cf ca ef ea xf xa]) hw px_X.tt (px_recv hT hw 0 0 rfl rfl rfl) m12_73 m12_70 m12_72 ms_10_3 m1_21 q_Mpg_settle ⟨show 1 + 1 ≤ (8 * lv + 18) from by first | with_reducible rfl | with_reducible assumption | omega, show 8 + (5 + 11) + 60 ≤ (220 * lv + 660) from by first | with_reducible rfl | with_reducible assumption | omega⟩ hl.1 rfl (Nat.le_of_ble_eq_true rfl) d_Mpg_binary_143 ⟨Nat.le_of_ble_eq_true rfl, Nat.le_of_ble_eq_true rfl⟩) hw hA (fun v11 p10 H locs hp10 hw => ?_)
        obtain ⟨pf7, na8, ma9, rfl, e12, e13, e14, e15, e16, e17, e18, e19, e20, e21⟩ := hp10
        have e12 : (pf7 26).toInt = (pf_133 26).toInt - 1 := e12
        have e13 : (pf7 12).toInt = (pf_133 12).toInt - 1 := e13
        have e14 : (pf_133 13).toInt ≤ (pf7 13).toInt := e14
        have e15 : (pf7 13).toInt ≤ (pf_133 13).toInt + 1 := e15
        have e16 : (pf7 11).toInt = (pf_133 11).toInt := e16
        have e17 : (pf7 24).toInt = (pf_133 24).toInt := e17
        have e18 : (pf7 25).toInt = (pf_133 25).toInt := e18
        have e19 : FrB lo na_133 ma_133 na8 ma9 := e19
        have hws := hws.kp e19 (by first | with_reducible rfl | with_reducible assumption | omega) (by first | with_reducible rfl | with_reducible assumption | omega)
        have hfb := hfb.tr e19 (by first | with_reducible rfl | with_reducible assumption | omega)
        have e20 : ExR ta (tf 6).toInt na8 ma9 v11 lo (pf7 13).toInt (Wl + Wr + 1 + X) ((pf_133 12).toInt - 1) := e20
        have ht_v11 := e20
        have hn_ht_v11 := ht_v11.num
        have e21 : FsI (tf 6).toInt (pf7 13).toInt na8 := e21
        have hfs := e21
        obtain ⟨qb221, qb222, qb223, qb224⟩ := tk_eq (ta := ta) (x := (pf7 11)) (y := (pf_133 11)) (by first | with_reducible rfl | with_reducible assumption | omega)
        have hw : pw D A s.heap H locs [wdP cs h r g tf ta pf7 na8 ma9 wa_133 cf ca ef ea xf xa] := hw
        have lv11 := Int32.le_toInt v11
        have uv11 := Int32.toInt_lt v11
        refine lv_istore_n (lv' := [(2, .int v11), (0, .ref h), (1, .int x133_1), (3, .int x133_3)]) S.x S.b d_Mpg_binary_146 rfl hl (by decide) rfl (fun ls hl => ?_)
        refine lv_goto (tgt := 133) S.x S.b d_Mpg_binary_147 (by decide) ?_
        exact ih133 pf7 na8 ma9 wa_133 x133_1 v11 x133_3 _ _ ls (show (pf7 24).toInt = (pf 24).toInt from by first | exact oz_1687f4cc65 k133_0 e17 | omega) (show (pf7 25).toInt = (pf 25).toInt from by first | exact oz_1687f4cc65 k133_1 e18 | omega) (show x133_1.toInt = (pf 26).toInt from by first | exact k133_2 | omega) (show (pf 26).toInt ≤ (pf7 26).toInt from by first | exact oz_e9107e9c5e k133_2 e12 nc1 | omega) (show (pf7 12).toInt = (pf 12).toInt + (pf7 26).toInt - (pf 26).toInt from by first | exact oz_f0edb74643 k133_4 e12 e13 | omega) (show (pf7 12).toInt ≤ 60 from by first | exact oz_bb3b55ee85 e13 k133_5 | omega) (show (pf 11).toInt + 1 ≤ (pf7 11).toInt from by first | exact oz_ad42535f91 k133_9 e16 k133_2 k133_8 nc1 | omega) (show (pf7 11).toInt < (tf 6).toInt from by first | exact oz_5d2fbac15b k133_7 e16 | omega) (show (pf 13).toInt + 1 ≤ (pf7 13).toInt from by first | exact oz_df9e044d3c k133_8 e14 | omega) (show (pf7 13).toInt - (pf 13).toInt + (pf7 26).toInt - (pf 26).toInt ≤ (pf7 11).toInt - (pf 11).toInt from by first | exact oz_e31acd305d k133_9 e12 e15 e16 | omega) (show bp ta (pf 11) + 1 ≤ bp ta (pf7 11) from by first | with_reducible rfl | with_reducible assumption | omega) (show 0 ≤ x133_3.toInt from by first | exact k133_11 | omega) (show x133_3.toInt ≤ 1 from by first | exact k133_12 | omega) (show FrB (pf 13).toInt na ma na8 ma9 from hfb) (show FrW (pf 26).toInt wa wa_133 from hfw) (show BinV ta (tf 6).toInt na8 ma9 wa_133 (pf 26).toInt (pf 12).toInt ((pf7 26).toInt - (pf 26).toInt) v11 (pf 13).toInt (pf7 13).toInt (3 * (bp ta (pf7 11) - bp ta (pf 11))) from ⟨_, _, _, ws_eq hws (by first | with_reducible rfl | with_reducible assumption | omega), (ExR.le ht_v11 (by first | with_reducible rfl | with_reducible assumption | omega) (by first | with_reducible rfl | with_reducible assumption | omega) (Int.le_refl _) (by first | with_reducible rfl | with_reducible assumption | omega)), by first | with_reducible rfl | with_reducible assumption | omega⟩) (show FsI (tf 6).toInt (pf7 13).toInt na8 from (FsI.le hfs (by first | with_reducible rfl | with_reducible assumption | omega))) (show (pf7 26).toInt < (n_133 : Int) from by first | exact oz_5cd8da6a50 hm e12 | omega) hw (lv_sub hl [1, 2, 0, 3] rfl)
  have J22 : ∀ (n_22 : Nat) (pf_22 : Nat → Int32) (na_22 : Nat → Nat → Int32) (ma_22 : Nat → Nat → Int32) (wa_22 : Nat → Nat → Int32) (x22_1 x22_2 x22_3 x22_4 : Int32) (H : Heap) (locs : List Loc) (ls : Array Slot), ((pf_22 24).toInt = (pf 24).toInt) → ((pf_22 25).toInt = (pf 25).toInt) → (x22_1.toInt = (pf 26).toInt) → ((pf 26).toInt ≤ (pf_22 26).toInt) → ((pf_22 12).toInt = (pf 12).toInt + (pf_22 26).toInt - (pf 26).toInt) → ((pf_22 12).toInt ≤ 60) → ((pf 11).toInt + 1 ≤ (pf_22 11).toInt) → ((pf_22 11).toInt < (tf 6).toInt) → ((pf 13).toInt + 1 ≤ (pf_22 13).toInt) → ((pf_22 13).toInt - (pf 13).toInt + (pf_22 26).toInt - (pf 26).toInt ≤ (pf_22 11).toInt - (pf 11).toInt) → (bp ta (pf 11) + 1 ≤ bp ta (pf_22 11)) → (0 ≤ x22_3.toInt) → (x22_3.toInt ≤ 1) → (FrB (pf 13).toInt na ma na_22 ma_22) → (FrW (pf 26).toInt wa wa_22) → (BinV ta (tf 6).toInt na_22 ma_22 wa_22 (pf 26).toInt (pf 12).toInt ((pf_22 26).toInt - (pf 26).toInt) x22_2 (pf 13).toInt (pf_22 13).toInt (3 * (bp ta (pf_22 11) - bp ta (pf 11)))) → (FsI (tf 6).toInt (pf_22 13).toInt na_22) → (x22_4.toInt ≤ 10) → (1 ≤ x22_4.toInt → (pf_22 11).toInt + 1 < (tf 6).toInt ∧ so ta (pf_22 11) = 5) → (1 ≤ x22_4.toInt → x22_4.toInt ≤ 2 → sz ta (pf_22 11) = 2) → (tf 6).toInt - (pf_22 11).toInt < (n_22 : Int) → pw D A s.heap H locs [wdP cs h r g tf ta pf_22 na_22 ma_22 wa_22 cf ca ef ea xf xa] → lv_has ls 5 [(0, .ref h), (1, .int x22_1), (2, .int x22_2), (3, .int x22_3), (4, .int x22_4)] → W p l e { frames := (8 * lv + 18), cells := 1, slots := 6, locals := (220 * lv + 660) } s m [.ref h].toArray below meth c H locs 0 0 (tx_MQ below (thQi D (va_A ([wdP cs h r g tf ta pf na ma wa cf ca ef ea xf xa] : List va_W).flatten s.heap.size) "java/lang/IllegalArgumentException" (fun v ps => ∃ (pf' : Nat → Int32) (na' : Nat → Nat → Int32) (ma' : Nat → Nat → Int32) (wa' : Nat → Nat → Int32), (ps = [wdP cs h r g tf ta pf' na' ma' wa' cf ca ef ea xf xa]) ∧ ((pf 11).toInt + 1 ≤ (pf' 11).toInt) ∧ ((pf' 11).toInt < (tf 6).toInt) ∧ ((pf 13).toInt + 1 ≤ (pf' 13).toInt) ∧ ((pf' 13).toInt - (pf 13).toInt ≤ (pf' 11).toInt - (pf 11).toInt) ∧ (bp ta (pf 11) + 1 ≤ bp ta (pf' 11)) ∧ ((pf' 12).toInt = (pf 12).toInt) ∧ ((pf' 24).toInt = (pf 24).toInt) ∧ ((pf' 25).toInt = (pf 25).toInt) ∧ ((pf' 26).toInt = (pf 26).toInt) ∧ (FrB (pf 13).toInt na ma na' ma') ∧ (FrW (pf 26).toInt wa wa') ∧ (ExD ta (tf 6).toInt na' ma' v (pf 13).toInt (pf' 13).toInt (3 * (bp ta (pf' 11) - bp ta (pf 11))) (pf 12).toInt) ∧ (FsI (tf 6).toInt (pf' 13).toInt na')) (fun ps => ∃ (pf' : Nat → Int32) (na' : Nat → Nat → Int32) (ma' : Nat → Nat → Int32) (wa' : Nat → Nat → Int32), ps = [wdP cs h r g tf ta pf' na' ma' wa' cf ca ef ea xf xa] ∧ 0 ≤ (pf' 11).toInt ∧ (pf' 11).toInt + 1 ≤ (tf 6).toInt) s.heap.size (tot s.heap)) [.ref h].toArray s 1 6 A) (F0 m 22 ls []) := by
    intro  n_22
    induction n_22 with
    | zero =>
      intro pf_22 na_22 ma_22 wa_22 x22_1 x22_2 x22_3 x22_4 H locs ls k22_0 k22_1 k22_2 k22_3 k22_4 k22_5 k22_6 k22_7 k22_8 k22_9 k22_10 k22_11 k22_12 k22_13 k22_14 k22_15 k22_16 k22_17 k22_18 k22_19 hm hw hl
      have lx22_1 := Int32.le_toInt x22_1
      have ux22_1 := Int32.toInt_lt x22_1
      have lx22_2 := Int32.le_toInt x22_2
      have ux22_2 := Int32.toInt_lt x22_2
      have lx22_3 := Int32.le_toInt x22_3
      have ux22_3 := Int32.toInt_lt x22_3
      have lx22_4 := Int32.le_toInt x22_4
      have ux22_4 := Int32.toInt_lt x22_4
      have hfb := k22_13
      have hfw := k22_14
      obtain ⟨m2, W1, Wr, hws, ht_x22_2, hWW⟩ := k22_15
      have hn_ht_x22_2 := ht_x22_2.num
      have hwr := hws.rng
      have hw2 := ht_x22_2.wpos
      have hfs := k22_16
      exact absurd hm (by first | with_reducible rfl | with_reducible assumption | omega)
    | succ n_22 ih22 =>
      intro pf_22 na_22 ma_22 wa_22 x22_1 x22_2 x22_3 x22_4 H locs ls k22_0 k22_1 k22_2 k22_3 k22_4 k22_5 k22_6 k22_7 k22_8 k22_9 k22_10 k22_11 k22_12 k22_13 k22_14 k22_15 k22_16 k22_17 k22_18 k22_19 hm hw hl
      have lx22_1 := Int32.le_toInt x22_1
      have ux22_1 := Int32.toInt_lt x22_1
      have lx22_2 := Int32.le_toInt x22_2
      have ux22_2 := Int32.toInt_lt x22_2
      have lx22_3 := Int32.le_toInt x22_3
      have ux22_3 := Int32.toInt_lt x22_3
      have lx22_4 := Int32.le_toInt x22_4
      have ux22_4 := Int32.toInt_lt x22_4
      have hfb := k22_13
      have hfw := k22_14
      obtain ⟨m2, W1, Wr, hws, ht_x22_2, hWW⟩ := k22_15
      have hn_ht_x22_2 := ht_x22_2.num
      have hwr := hws.rng
      have hw2 := ht_x22_2.wpos
      have hfs := k22_16
      have J29 : ∀ (n_29 : Nat) (pf_29 : Nat → Int32) (na_29 : Nat → Nat → Int32) (ma_29 : Nat → Nat → Int32) (wa_29 : Nat → Nat → Int32) (x29_1 x29_2 x29_3 x29_4 : Int32) (H : Heap) (locs : List Loc) (ls : Array Slot), ((pf_29 24).toInt = (pf 24).toInt) → ((pf_29 25).toInt = (pf 25).toInt) → (x29_1.toInt = (pf 26).toInt) → ((pf 26).toInt ≤ (pf_29 26).toInt) → ((pf_29 12).toInt = (pf 12).toInt + (pf_29 26).toInt - (pf 26).toInt) → ((pf_29 12).toInt ≤ 60) → ((pf 11).toInt + 1 ≤ (pf_29 11).toInt) → ((pf_29 11).toInt < (tf 6).toInt) → ((pf 13).toInt + 1 ≤ (pf_29 13).toInt) → ((pf_29 13).toInt - (pf 13).toInt + (pf_29 26).toInt - (pf 26).toInt ≤ (pf_29 11).toInt - (pf 11).toInt) → (bp ta (pf 11) + 1 ≤ bp ta (pf_29 11)) → (0 ≤ x29_3.toInt) → (x29_3.toInt ≤ 1) → (FrB (pf 13).toInt na ma na_29 ma_29) → (FrW (pf 26).toInt wa wa_29) → (BinV ta (tf 6).toInt na_29 ma_29 wa_29 (pf 26).toInt (pf 12).toInt ((pf_29 26).toInt - (pf 26).toInt) x29_2 (pf 13).toInt (pf_29 13).toInt (3 * (bp ta (pf_29 11) - bp ta (pf 11)))) → (FsI (tf 6).toInt (pf_29 13).toInt na_29) → (1 ≤ x29_4.toInt) → ((tf 6).toInt - (pf_29 11).toInt < (n_22 : Int) + 1) → (x29_4.toInt ≤ 10) → (1 ≤ x29_4.toInt → (pf_29 11).toInt + 1 < (tf 6).toInt ∧ so ta (pf_29 11) = 5) → (1 ≤ x29_4.toInt → x29_4.toInt ≤ 2 → sz ta (pf_29 11) = 2) → (pf_29 26).toInt < (n_29 : Int) → pw D A s.heap H locs [wdP cs h r g tf ta pf_29 na_29 ma_29 wa_29 cf ca ef ea xf xa] → lv_has ls 5 [(0, .ref h), (1, .int x29_1), (2, .int x29_2), (3, .int x29_3), (4, .int x29_4)] → W p l e { frames := (8 * lv + 18), cells := 1, slots := 6, locals := (220 * lv + 660) } s m [.ref h].toArray below meth c H locs 0 0 (tx_MQ below (thQi D (va_A ([wdP cs h r g tf ta pf na ma wa cf ca ef ea xf xa] : List va_W).flatten s.heap.size) "java/lang/IllegalArgumentException" (fun v ps => ∃ (pf' : Nat → Int32) (na' : Nat → Nat → Int32) (ma' : Nat → Nat → Int32) (wa' : Nat → Nat → Int32), (ps = [wdP cs h r g tf ta pf' na' ma' wa' cf ca ef ea xf xa]) ∧ ((pf 11).toInt + 1 ≤ (pf' 11).toInt) ∧ ((pf' 11).toInt < (tf 6).toInt) ∧ ((pf 13).toInt + 1 ≤ (pf' 13).toInt) ∧ ((pf' 13).toInt - (pf 13).toInt ≤ (pf' 11).toInt - (pf 11).toInt) ∧ (bp ta (pf 11) + 1 ≤ bp ta (pf' 11)) ∧ ((pf' 12).toInt = (pf 12).toInt) ∧ ((pf' 24).toInt = (pf 24).toInt) ∧ ((pf' 25).toInt = (pf 25).toInt) ∧ ((pf' 26).toInt = (pf 26).toInt) ∧ (FrB (pf 13).toInt na ma na' ma') ∧ (FrW (pf 26).toInt wa wa') ∧ (ExD ta (tf 6).toInt na' ma' v (pf 13).toInt (pf' 13).toInt (3 * (bp ta (pf' 11) - bp ta (pf 11))) (pf 12).toInt) ∧ (FsI (tf 6).toInt (pf' 13).toInt na')) (fun ps => ∃ (pf' : Nat → Int32) (na' : Nat → Nat → Int32) (ma' : Nat → Nat → Int32) (wa' : Nat → Nat → Int32), ps = [wdP cs h r g tf ta pf' na' ma' wa' cf ca ef ea xf xa] ∧ 0 ≤ (pf' 11).toInt ∧ (pf' 11).toInt + 1 ≤ (tf 6).toInt) s.heap.size (tot s.heap)) [.ref h].toArray s 1 6 A) (F0 m 29 ls []) := by
        intro  n_29
        induction n_29 with
        | zero =>
          intro pf_29 na_29 ma_29 wa_29 x29_1 x29_2 x29_3 x29_4 H locs ls k29_0 k29_1 k29_2 k29_3 k29_4 k29_5 k29_6 k29_7 k29_8 k29_9 k29_10 k29_11 k29_12 k29_13 k29_14 k29_15 k29_16 k29_17 k29_18 k29_19 k29_20 k29_21 hm hw hl
          have lx29_1 := Int32.le_toInt x29_1
          have ux29_1 := Int32.toInt_lt x29_1
          have lx29_2 := Int32.le_toInt x29_2
          have ux29_2 := Int32.toInt_lt x29_2
          have lx29_3 := Int32.le_toInt x29_3
          have ux29_3 := Int32.toInt_lt x29_3
          have lx29_4 := Int32.le_toInt x29_4
          have ux29_4 := Int32.toInt_lt x29_4
          have hfb := k29_13
          have hfw := k29_14
          obtain ⟨m2, W1, Wr, hws, ht_x29_2, hWW⟩ := k29_15
          have hn_ht_x29_2 := ht_x29_2.num
          have hwr := hws.rng
          have hw2 := ht_x29_2.wpos
          have hfs := k29_16
          exact absurd hm (by first | with_reducible rfl | with_reducible assumption | omega)
        | succ n_29 ih29 =>
          intro pf_29 na_29 ma_29 wa_29 x29_1 x29_2 x29_3 x29_4 H locs ls k29_0 k29_1 k29_2 k29_3 k29_4 k29_5 k29_6 k29_7 k29_8 k29_9 k29_10 k29_11 k29_12 k29_13 k29_14 k29_15 k29_16 k29_17 k29_18 k29_19 k29_20 k29_21 hm hw hl
          have lx29_1 := Int32.le_toInt x29_1
          have ux29_1 := Int32.toInt_lt x29_1
          have lx29_2 := Int32.le_toInt x29_2
          have ux29_2 := Int32.toInt_lt x29_2
          have lx29_3 := Int32.le_toInt x29_3
          have ux29_3 := Int32.toInt_lt x29_3
          have lx29_4 := Int32.le_toInt x29_4
          have ux29_4 := Int32.toInt_lt x29_4
          have hfb := k29_13
          have hfw := k29_14
          obtain ⟨m2, W1, Wr, hws, ht_x29_2, hWW⟩ := k29_15
          have hn_ht_x29_2 := ht_x29_2.num
          have hwr := hws.rng
          have hw2 := ht_x29_2.wpos
          have hfs := k29_16
          refine lv_aload_n S.x S.b d_Mpg_binary_29 rfl (lv_at hl 0 rfl) ?_
          refine px_get S k_Mpg hT hw 0 0 26 (v := .int (pf_29 26)) rfl rfl rfl (by decide) m10_14 d_Mpg_binary_30 ?_
          refine lv_iload_n S.x S.b d_Mpg_binary_33 rfl (lv_at hl 1 rfl) ?_
          refine lv_icmp_le (tgt := 62) S.x S.b d_Mpg_binary_34 (by decide) (fun c23 => ?_) (fun c23 => ?_)
          · have nc23 : (pf_29 26).toInt ≤ x29_1.toInt := (i_le (x := (pf_29 26)) (y := x29_1)).mp c23
            refine lv_aload_n S.x S.b d_Mpg_binary_62 rfl (lv_at hl 0 rfl) ?_
            refine px_get S k_Mpg hT hw 0 0 27 (v := .ref (r 27)) rfl rfl rfl (by decide) m10_15 d_Mpg_binary_63 ?_
            refine lv_aload_n S.x S.b d_Mpg_binary_66 rfl (lv_at hl 0 rfl) ?_
            refine px_get S k_Mpg hT hw 0 0 26 (v := .int (pf_29 26)) rfl rfl rfl (by decide) m10_14 d_Mpg_binary_67 ?_
            refine lv_iload S.x S.b d_Mpg_binary_70 (lv_at hl 4 rfl) ?_
            refine px_iast S hT hw 0 20 (n := 700) (f := (wa_29 27)) (x := (pf_29 26)) (y := x29_4) rfl gp_27 (vp_in_iff.mpr (by constructor <;> omega)) d_Mpg_binary_72 (w' := wdP cs h r g tf ta pf_29 na_29 ma_29 (va_up wa_29 27 (upd (wa_29 27) (pf_29 26).toNatClampNeg x29_4)) cf ca ef ea xf xa) (ps' := [wdP cs h r g tf ta pf_29 na_29 ma_29 (va_up wa_29 27 (upd (wa_29 27) (pf_29 26).toNatClampNeg x29_4)) cf ca ef ea xf xa]) sp_27 rfl (fun H locs hw => ?_)
            refine lv_aload_n S.x S.b d_Mpg_binary_73 rfl (lv_at hl 0 rfl) ?_
            refine px_get S k_Mpg hT hw 0 0 28 (v := .ref (r 28)) rfl rfl rfl (by decide) m10_16 d_Mpg_binary_74 ?_
            refine lv_aload_n S.x S.b d_Mpg_binary_77 rfl (lv_at hl 0 rfl) ?_
            refine px_get S k_Mpg hT hw 0 0 26 (v := .int (pf_29 26)) rfl rfl rfl (by decide) m10_14 d_Mpg_binary_78 ?_
            refine lv_aload_n S.x S.b d_Mpg_binary_81 rfl (lv_at hl 0 rfl) ?_
            refine px_get S k_Mpg hT hw 0 0 11 (v := .int (pf_29 11)) rfl rfl rfl (by decide) m9_235 d_Mpg_binary_82 ?_
            refine px_iast S hT hw 0 21 (n := 700) (f := ((va_up wa_29 27 (upd (wa_29 27) (pf_29 26).toNatClampNeg x29_4)) 28)) (x := (pf_29 26)) (y := (pf_29 11)) rfl gp_28 (vp_in_iff.mpr (by constructor <;> omega)) d_Mpg_binary_85 (w' := wdP cs h r g tf ta pf_29 na_29 ma_29 (va_up (va_up wa_29 27 (upd (wa_29 27) (pf_29 26).toNatClampNeg x29_4)) 28 (upd ((va_up wa_29 27 (upd (wa_29 27) (pf_29 26).toNatClampNeg x29_4)) 28) (pf_29 26).toNatClampNeg (pf_29 11))) cf ca ef ea xf xa) (ps' := [wdP cs h r g tf ta pf_29 na_29 ma_29 (va_up (va_up wa_29 27 (upd (wa_29 27) (pf_29 26).toNatClampNeg x29_4)) 28 (upd ((va_up wa_29 27 (upd (wa_29 27) (pf_29 26).toNatClampNeg x29_4)) 28) (pf_29 26).toNatClampNeg (pf_29 11))) cf ca ef ea xf xa]) sp_28 rfl (fun H locs hw => ?_)
            refine lv_aload_n S.x S.b d_Mpg_binary_86 rfl (lv_at hl 0 rfl) ?_
            refine px_get S k_Mpg hT hw 0 0 29 (v := .ref (r 29)) rfl rfl rfl (by decide) m10_17 d_Mpg_binary_87 ?_
            refine lv_aload_n S.x S.b d_Mpg_binary_90 rfl (lv_at hl 0 rfl) ?_
            refine px_get S k_Mpg hT hw 0 0 26 (v := .int (pf_29 26)) rfl rfl rfl (by decide) m10_14 d_Mpg_binary_91 ?_
            refine lv_iload_n S.x S.b d_Mpg_binary_94 rfl (lv_at hl 2 rfl) ?_
            refine px_iast S hT hw 0 22 (n := 700) (f := ((va_up (va_up wa_29 27 (upd (wa_29 27) (pf_29 26).toNatClampNeg x29_4)) 28 (upd ((va_up wa_29 27 (upd (wa_29 27) (pf_29 26).toNatClampNeg x29_4)) 28) (pf_29 26).toNatClampNeg (pf_29 11))) 29)) (x := (pf_29 26)) (y := x29_2) rfl gp_29 (vp_in_iff.mpr (by constructor <;> omega)) d_Mpg_binary_95 (w' := wdP cs h r g tf ta pf_29 na_29 ma_29 (va_up (va_up (va_up wa_29 27 (upd (wa_29 27) (pf_29 26).toNatClampNeg x29_4)) 28 (upd ((va_up wa_29 27 (upd (wa_29 27) (pf_29 26).toNatClampNeg x29_4)) 28) (pf_29 26).toNatClampNeg (pf_29 11))) 29 (upd ((va_up (va_up wa_29 27 (upd (wa_29 27) (pf_29 26).toNatClampNeg x29_4)) 28 (upd ((va_up wa_29 27 (upd (wa_29 27) (pf_29 26).toNatClampNeg x29_4)) 28) (pf_29 26).toNatClampNeg (pf_29 11))) 29) (pf_29 26).toNatClampNeg x29_2)) cf ca ef ea xf xa) (ps' := [wdP cs h r g tf ta pf_29 na_29 ma_29 (va_up (va_up (va_up wa_29 27 (upd (wa_29 27) (pf_29 26).toNatClampNeg x29_4)) 28 (upd ((va_up wa_29 27 (upd (wa_29 27) (pf_29 26).toNatClampNeg x29_4)) 28) (pf_29 26).toNatClampNeg (pf_29 11))) 29 (upd ((va_up (va_up wa_29 27 (upd (wa_29 27) (pf_29 26).toNatClampNeg x29_4)) 28 (upd ((va_up wa_29 27 (upd (wa_29 27) (pf_29 26).toNatClampNeg x29_4)) 28) (pf_29 26).toNatClampNeg (pf_29 11))) 29) (pf_29 26).toNatClampNeg x29_2)) cf ca ef ea xf xa]) sp_29 rfl (fun H locs hw => ?_)
            refine lv_aload_n S.x S.b d_Mpg_binary_96 rfl (lv_at hl 0 rfl) ?_
            refine lv_iload_n S.x S.b d_Mpg_binary_97 rfl (lv_at hl 2 rfl) ?_
            refine th_callv (ps0 := [wdP cs h r g tf ta pf na ma wa cf ca ef ea xf xa]) (pr := []) (pcs := [wdP cs h r g tf ta pf_29 na_29 ma_29 (va_up (va_up (va_up wa_29 27 (upd (wa_29 27) (pf_29 26).toNatClampNeg x29_4)) 28 (upd ((va_up wa_29 27 (upd (wa_29 27) (pf_29 26).toNatClampNeg x29_4)) 28) (pf_29 26).toNatClampNeg (pf_29 11))) 29 (upd ((va_up (va_up wa_29 27 (upd (wa_29 27) (pf_29 26).toNatClampNeg x29_4)) 28 (upd ((va_up wa_29 27 (upd (wa_29 27) (pf_29 26).toNatClampNeg x29_4)) 28) (pf_29 26).toNatClampNeg (pf_29 11))) 29) (pf_29 26).toNatClampNeg x29_2)) cf ca ef ea xf xa]) (As := [.int x29_2]) (rest := []) (c_mp_stands l D cs h r g tf ta pf_29 na_29 ma_29 (va_up (va_up (va_up wa_29 27 (upd (wa_29 27) (pf_29 26).toNatClampNeg x29_4)) 28 (upd ((va_up wa_29 27 (upd (wa_29 27) (pf_29 26).toNatClampNeg x29_4)) 28) (pf_29 26).toNatClampNeg (pf_29 11))) 29 (upd ((va_up (va_up wa_29 27 (upd (wa_29 27) (pf_29 26).toNatClampNeg x29_4)) 28 (upd ((va_up wa_29 27 (upd (wa_29 27) (pf_29 26).toNatClampNeg x29_4)) 28) (pf_29 26).toNatClampNeg (pf_29 11))) 29) (pf_29 26).toNatClampNeg x29_2)) cf ca ef ea xf xa x29_2  (show 0 ≤ (pf_29 11).toInt from by first | exact oz_06d7f15a5c k29_6 g0 | omega) (show (pf_29 11).toInt < (tf 6).toInt from by first | exact k29_7 | omega) (show 0 ≤ x29_2.toInt from by first | with_reducible rfl | with_reducible assumption | omega) (show x29_2.toInt < 2100 from by first | with_reducible rfl | with_reducible assumption | omega) (show 0 ≤ dp na_29 x29_2 from by first | with_reducible rfl | with_reducible assumption | omega) (show dp na_29 x29_2 ≤ 1000 from by first | with_reducible rfl | with_reducible assumption | omega) (show 0 ≤ (pf_29 12).toInt from by first | exact oz_f113337379 k29_4 g7 g8 k29_3 | omega) (show (pf_29 12).toInt ≤ 60 from by first | exact k29_5 | omega) hlf htk) S hT hw (oX_call (P := (fun A U H => (oN A U H) ∧ (oP A g U H))) (pr := []) (oG_and oG_N oG_P) hw hA ⟨hN, hP⟩) (px_recv hT hw 0 0 rfl rfl rfl) m12_46 m12_43 m12_45 ms_9_13 m1_21 q_Mpg_stands2 ⟨show 7 + 1 ≤ (8 * lv + 18) from by first | with_reducible rfl | with_reducible assumption | omega, show 8 + (2 + 11) + 150 ≤ (220 * lv + 660) from by first | with_reducible rfl | with_reducible assumption | omega⟩ hl.1 rfl (Nat.le_of_ble_eq_true rfl) d_Mpg_binary_98 ⟨Nat.le_of_ble_eq_true rfl, Nat.le_of_ble_eq_true rfl⟩ hne hlk hA hAe (fun o t h => Or.inr h) ?_ (fun p24 H locs hp24 hw => ?_)
            · exact fun p1 H1 locs1 hp hw => by obtain ⟨pq1, pq2, pq3, pq4, rfl, hq1, hq2⟩ := hp; exact ⟨_, ⟨pq1, pq2, pq3, pq4, rfl, hq1, hq2⟩, hw⟩
            obtain ⟨rfl, e26⟩ := hp24
            have e26 : (pf_29 12).toInt + dp na_29 x29_2 < 60 := e26
            have hw : pw D A s.heap H locs [wdP cs h r g tf ta pf_29 na_29 ma_29 (va_up (va_up (va_up wa_29 27 (upd (wa_29 27) (pf_29 26).toNatClampNeg x29_4)) 28 (upd ((va_up wa_29 27 (upd (wa_29 27) (pf_29 26).toNatClampNeg x29_4)) 28) (pf_29 26).toNatClampNeg (pf_29 11))) 29 (upd ((va_up (va_up wa_29 27 (upd (wa_29 27) (pf_29 26).toNatClampNeg x29_4)) 28 (upd ((va_up wa_29 27 (upd (wa_29 27) (pf_29 26).toNatClampNeg x29_4)) 28) (pf_29 26).toNatClampNeg (pf_29 11))) 29) (pf_29 26).toNatClampNeg x29_2)) cf ca ef ea xf xa] := hw
            refine lv_aload_n S.x S.b d_Mpg_binary_101 rfl (lv_at hl 0 rfl) ?_
            refine th_callv (ps0 := [wdP cs h r g tf ta pf na ma wa cf ca ef ea xf xa]) (pr := []) (pcs := [wdP cs h r g tf ta pf_29 na_29 ma_29 (va_up (va_up (va_up wa_29 27 (upd (wa_29 27) (pf_29 26).toNatClampNeg x29_4)) 28 (upd ((va_up wa_29 27 (upd (wa_29 27) (pf_29 26).toNatClampNeg x29_4)) 28) (pf_29 26).toNatClampNeg (pf_29 11))) 29 (upd ((va_up (va_up wa_29 27 (upd (wa_29 27) (pf_29 26).toNatClampNeg x29_4)) 28 (upd ((va_up wa_29 27 (upd (wa_29 27) (pf_29 26).toNatClampNeg x29_4)) 28) (pf_29 26).toNatClampNeg (pf_29 11))) 29) (pf_29 26).toNatClampNeg x29_2)) cf ca ef ea xf xa]) (As := []) (rest := []) (c_mp_opens l D cs h r g tf ta na_29 ma_29 (va_up (va_up (va_up wa_29 27 (upd (wa_29 27) (pf_29 26).toNatClampNeg x29_4)) 28 (upd ((va_up wa_29 27 (upd (wa_29 27) (pf_29 26).toNatClampNeg x29_4)) 28) (pf_29 26).toNatClampNeg (pf_29 11))) 29 (upd ((va_up (va_up wa_29 27 (upd (wa_29 27) (pf_29 26).toNatClampNeg x29_4)) 28 (upd ((va_up wa_29 27 (upd (wa_29 27) (pf_29 26).toNatClampNeg x29_4)) 28) (pf_29 26).toNatClampNeg (pf_29 11))) 29) (pf_29 26).toNatClampNeg x29_2)) cf ca ef ea xf xa pf_29   (show 0 ≤ (pf_29 11).toInt from by first | exact oz_06d7f15a5c k29_6 g0 | omega) (show (pf_29 11).toInt < (tf 6).toInt from by first | exact k29_7 | omega) (show (tf 6).toInt ≤ 2049 from by first | exact g2 | omega) (show (pf_29 11).toInt + 1 < (tf 6).toInt from by first | with_reducible rfl | with_reducible assumption | omega) (show 0 ≤ (pf_29 12).toInt from by first | exact oz_f113337379 k29_4 g7 g8 k29_3 | omega) (show (pf_29 12).toInt ≤ 60 from by first | exact k29_5 | omega) hlf htk) S hT hw (oX_call (P := (fun A U H => (oN A U H) ∧ (oP A g U H))) (pr := []) (oG_and oG_N oG_P) hw hA ⟨hN, hP⟩) (px_recv hT hw 0 0 rfl rfl rfl) m11_238 m11_235 m11_237 ms_9_1 m1_21 q_Mpg_opens ⟨show 7 + 1 ≤ (8 * lv + 18) from by first | with_reducible rfl | with_reducible assumption | omega, show 8 + (1 + 11) + 150 ≤ (220 * lv + 660) from by first | with_reducible rfl | with_reducible assumption | omega⟩ hl.1 rfl (Nat.le_of_ble_eq_true rfl) d_Mpg_binary_102 ⟨Nat.le_of_ble_eq_true rfl, Nat.le_of_ble_eq_true rfl⟩ hne hlk hA hAe (fun o t h => Or.inr h) ?_ (fun p29 H locs hp29 hw => ?_)
            · exact fun p1 H1 locs1 hp hw => by obtain ⟨pq1, pq2, pq3, pq4, rfl, hq1, hq2⟩ := hp; exact ⟨_, ⟨pq1, pq2, pq3, pq4, rfl, hq1, hq2⟩, hw⟩
            obtain ⟨pf28, rfl, e31, e32, e33, e34, e35, e36, e37, e38, e39, e40⟩ := hp29
            have e31 : (pf28 11).toInt = (pf_29 11).toInt + 1 := e31
            have e32 : (pf28 11).toInt < (tf 6).toInt := e32
            have e33 : bp ta (pf_29 11) + sz ta (pf_29 11) ≤ bp ta (pf28 11) := e33
            have e34 : 1 ≤ sz ta (pf_29 11) := e34
            have e35 : (pf28 12).toInt = (pf_29 12).toInt + 1 := e35
            have e36 : (pf_29 12).toInt < 60 := e36
            have e37 : (pf28 13).toInt = (pf_29 13).toInt := e37
            have e38 : (pf28 24).toInt = (pf_29 24).toInt := e38
            have e39 : (pf28 25).toInt = (pf_29 25).toInt := e39
            have e40 : (pf28 26).toInt = (pf_29 26).toInt := e40
            have hw : pw D A s.heap H locs [wdP cs h r g tf ta pf28 na_29 ma_29 (va_up (va_up (va_up wa_29 27 (upd (wa_29 27) (pf_29 26).toNatClampNeg x29_4)) 28 (upd ((va_up wa_29 27 (upd (wa_29 27) (pf_29 26).toNatClampNeg x29_4)) 28) (pf_29 26).toNatClampNeg (pf_29 11))) 29 (upd ((va_up (va_up wa_29 27 (upd (wa_29 27) (pf_29 26).toNatClampNeg x29_4)) 28 (upd ((va_up wa_29 27 (upd (wa_29 27) (pf_29 26).toNatClampNeg x29_4)) 28) (pf_29 26).toNatClampNeg (pf_29 11))) 29) (pf_29 26).toNatClampNeg x29_2)) cf ca ef ea xf xa] := hw
            obtain ⟨X, hX⟩ : ∃ X : Int, X = (if x29_4.toInt < 3 then 4 else 0) := ⟨_, rfl⟩; have hX2 : (x29_4.toInt < 3 → 4 ≤ X) ∧ 0 ≤ X ∧ (3 ≤ x29_4.toInt → X = 0) ∧ X ≤ 4 := (by rw [hX]; split <;> omega); clear hX; obtain ⟨hws, hfwP⟩ := ws_push (rk := x29_4) (tk := (pf_29 11)) (i := (pf_29 26)) (X := X) hws (ExR.le ht_x29_2 (Int.le_refl _) (Int.le_refl _) (Int.le_refl _) (by first | with_reducible rfl | with_reducible assumption | omega)) (by first | with_reducible rfl | with_reducible assumption | omega) (by first | with_reducible rfl | with_reducible assumption | omega) (by first | with_reducible rfl | with_reducible assumption | omega) (by first | with_reducible rfl | with_reducible assumption | omega) (by first | with_reducible rfl | with_reducible assumption | omega) ⟨by first | with_reducible rfl | with_reducible assumption | omega, by first | with_reducible rfl | with_reducible assumption | omega, by first | with_reducible rfl | with_reducible assumption | omega⟩ ⟨hX2.1, hX2.2.1⟩ rfl rfl rfl; have hfw := hfw.tr hfwP (by first | with_reducible rfl | with_reducible assumption | omega); have hwr := hws.rng
            refine lv_aload_n S.x S.b d_Mpg_binary_105 rfl (lv_at hl 0 rfl) ?_
            refine lv_dup S.x S.b d_Mpg_binary_106 rfl ?_
            refine px_get S k_Mpg hT hw 0 0 26 (v := .int (pf28 26)) rfl rfl rfl (by decide) m10_14 d_Mpg_binary_107 ?_
            refine lv_iconst (v := 1) S.x S.b d_Mpg_binary_110 (by decide) ?_
            refine lv_iadd S.x S.b d_Mpg_binary_111 ?_
            have lr41 := Int32.le_toInt (pf28 26)
            have ur41 := Int32.toInt_lt (pf28 26)
            refine lv_topi (fun z42 ez42 => ?_)
            have tz42 : z42.toInt = ((pf28 26).toInt + (1 : Int) + 2147483648) % 4294967296 - 2147483648 := by rw [ez42]; exact i_add (pf28 26) 1
            have lz42 := Int32.le_toInt z42
            have uz42 := Int32.toInt_lt z42
            try replace tz42 : z42.toInt = (pf28 26).toInt + (1 : Int) := by omega
            refine px_put S k_Mpg hT hw 0 0 26 rfl rfl (by decide) m10_14 rfl rfl rfl (Nat.le_of_ble_eq_true rfl) d_Mpg_binary_112 (w' := wdP cs h r g tf ta (upd pf28 26 z42) na_29 ma_29 (va_up (va_up (va_up wa_29 27 (upd (wa_29 27) (pf_29 26).toNatClampNeg x29_4)) 28 (upd ((va_up wa_29 27 (upd (wa_29 27) (pf_29 26).toNatClampNeg x29_4)) 28) (pf_29 26).toNatClampNeg (pf_29 11))) 29 (upd ((va_up (va_up wa_29 27 (upd (wa_29 27) (pf_29 26).toNatClampNeg x29_4)) 28 (upd ((va_up wa_29 27 (upd (wa_29 27) (pf_29 26).toNatClampNeg x29_4)) 28) (pf_29 26).toNatClampNeg (pf_29 11))) 29) (pf_29 26).toNatClampNeg x29_2)) cf ca ef ea xf xa) (ps' := [wdP cs h r g tf ta (upd pf28 26 z42) na_29 ma_29 (va_up (va_up (va_up wa_29 27 (upd (wa_29 27) (pf_29 26).toNatClampNeg x29_4)) 28 (upd ((va_up wa_29 27 (upd (wa_29 27) (pf_29 26).toNatClampNeg x29_4)) 28) (pf_29 26).toNatClampNeg (pf_29 11))) 29 (upd ((va_up (va_up wa_29 27 (upd (wa_29 27) (pf_29 26).toNatClampNeg x29_4)) 28 (upd ((va_up wa_29 27 (upd (wa_29 27) (pf_29 26).toNatClampNeg x29_4)) 28) (pf_29 26).toNatClampNeg (pf_29 11))) 29) (pf_29 26).toNatClampNeg x29_2)) cf ca ef ea xf xa]) rfl rfl (fun H locs hw => ?_)
            refine lv_aload_n S.x S.b d_Mpg_binary_115 rfl (lv_at hl 0 rfl) ?_
            refine th_calli (ps0 := [wdP cs h r g tf ta pf na ma wa cf ca ef ea xf xa]) (pr := []) (pcs := [wdP cs h r g tf ta (upd pf28 26 z42) na_29 ma_29 (va_up (va_up (va_up wa_29 27 (upd (wa_29 27) (pf_29 26).toNatClampNeg x29_4)) 28 (upd ((va_up wa_29 27 (upd (wa_29 27) (pf_29 26).toNatClampNeg x29_4)) 28) (pf_29 26).toNatClampNeg (pf_29 11))) 29 (upd ((va_up (va_up wa_29 27 (upd (wa_29 27) (pf_29 26).toNatClampNeg x29_4)) 28 (upd ((va_up wa_29 27 (upd (wa_29 27) (pf_29 26).toNatClampNeg x29_4)) 28) (pf_29 26).toNatClampNeg (pf_29 11))) 29) (pf_29 26).toNatClampNeg x29_2)) cf ca ef ea xf xa]) (As := []) (rest := []) (c_mp_unary l D cs h r g tf ta cf ca ef ea xf xa (upd pf28 26 z42) na_29 ma_29 (va_up (va_up (va_up wa_29 27 (upd (wa_29 27) (pf_29 26).toNatClampNeg x29_4)) 28 (upd ((va_up wa_29 27 (upd (wa_29 27) (pf_29 26).toNatClampNeg x29_4)) 28) (pf_29 26).toNatClampNeg (pf_29 11))) 29 (upd ((va_up (va_up wa_29 27 (upd (wa_29 27) (pf_29 26).toNatClampNeg x29_4)) 28 (upd ((va_up wa_29 27 (upd (wa_29 27) (pf_29 26).toNatClampNeg x29_4)) 28) (pf_29 26).toNatClampNeg (pf_29 11))) 29) (pf_29 26).toNatClampNeg x29_2))  lv (show 0 ≤ (pf28 11).toInt from by first | exact oz_184ed96a99 e31 k29_6 g0 | omega) (show (pf28 11).toInt < (tf 6).toInt from by first | exact e32 | omega) (show (tf 6).toInt ≤ 2049 from by first | exact g2 | omega) (show 0 ≤ (pf28 12).toInt from by first | exact oz_af22f13c41 e35 k29_4 g7 g8 k29_3 | omega) (show (pf28 12).toInt ≤ 60 from by first | exact oz_6710fd9021 e35 e36 | omega) (show 0 ≤ (pf28 13).toInt from by first | exact oz_0cb63e6fad e37 k29_8 g5 | omega) (show (pf28 13).toInt ≤ (pf28 11).toInt + 20 from by first | exact oz_8c0d4bf9ff e31 e37 k29_9 g6 k29_3 | omega) (show 0 ≤ z42.toInt from by first | exact oz_5992a88438 tz42 e40 k29_3 g7 | omega) (show z42.toInt ≤ (pf28 12).toInt from by first | exact oz_6f93422adf e35 tz42 k29_4 e40 g8 | omega) (show 61 ≤ (pf28 12).toInt + (lv : Int) from by first | exact oz_9f95961918 g9 e35 k29_4 k29_3 | omega) (show lv ≤ 61 from by first | exact g10 | omega) hlf htk (FsI.le (N' := (pf28 13).toInt) hfs (by first | with_reducible rfl | with_reducible assumption | omega)) hE) S hT hw (oX_call (P := (fun A U H => (oN A U H) ∧ (oP A g U H))) (pr := []) (oG_and oG_N oG_P) hw hA ⟨hN, hP⟩) (px_recv hT hw 0 0 rfl rfl rfl) m12_22 m12_19 m12_21 ms_9_7 m1_21 q_Mpg_unary ⟨show (8 * lv + 17) + 1 ≤ (8 * lv + 18) from by first | with_reducible rfl | with_reducible assumption | omega, show 8 + (6 + 11) + (220 * lv + 630) ≤ (220 * lv + 660) from by first | with_reducible rfl | with_reducible assumption | omega⟩ hl.1 rfl (Nat.le_of_ble_eq_true rfl) d_Mpg_binary_116 ⟨Nat.le_of_ble_eq_true rfl, Nat.le_of_ble_eq_true rfl⟩ hne hlk hA hAe (fun o t h => Or.inr h) ?_ (fun v52 p51 H locs hp51 hw => ?_)
            · exact fun p1 H1 locs1 hp hw => by obtain ⟨pq1, pq2, pq3, pq4, rfl, hq1, hq2⟩ := hp; exact ⟨_, ⟨pq1, pq2, pq3, pq4, rfl, hq1, hq2⟩, hw⟩
            obtain ⟨pf47, na48, ma49, wa50, rfl, e53, e54, e55, e56, e57, e58, e59, e60, e61, e62, e63, e64, e65⟩ := hp51
            have e53 : (pf28 11).toInt + 1 ≤ (pf47 11).toInt := e53
            have e54 : (pf47 11).toInt < (tf 6).toInt := e54
            have e55 : (pf28 13).toInt + 1 ≤ (pf47 13).toInt := e55
            have e56 : (pf47 13).toInt - (pf28 13).toInt ≤ (pf47 11).toInt - (pf28 11).toInt := e56
            have e57 : bp ta (pf28 11) + 1 ≤ bp ta (pf47 11) := e57
            have e58 : (pf47 12).toInt = (pf28 12).toInt := e58
            have e59 : (pf47 24).toInt = (pf28 24).toInt := e59
            have e60 : (pf47 25).toInt = (pf28 25).toInt := e60
            have e61 : (pf47 26).toInt = z42.toInt := e61
            have e62 : FrB (pf28 13).toInt na_29 ma_29 na48 ma49 := e62
            have hws := hws.kp e62 (by first | with_reducible rfl | with_reducible assumption | omega) (by first | with_reducible rfl | with_reducible assumption | omega)
            have hfb := hfb.tr e62 (by first | with_reducible rfl | with_reducible assumption | omega)
            have e63 : FrW z42.toInt (va_up (va_up (va_up wa_29 27 (upd (wa_29 27) (pf_29 26).toNatClampNeg x29_4)) 28 (upd ((va_up wa_29 27 (upd (wa_29 27) (pf_29 26).toNatClampNeg x29_4)) 28) (pf_29 26).toNatClampNeg (pf_29 11))) 29 (upd ((va_up (va_up wa_29 27 (upd (wa_29 27) (pf_29 26).toNatClampNeg x29_4)) 28 (upd ((va_up wa_29 27 (upd (wa_29 27) (pf_29 26).toNatClampNeg x29_4)) 28) (pf_29 26).toNatClampNeg (pf_29 11))) 29) (pf_29 26).toNatClampNeg x29_2)) wa50 := e63
            have hfw := hfw.tr e63 (by first | with_reducible rfl | with_reducible assumption | omega)
            have hws := hws.kw e63 (by first | with_reducible rfl | with_reducible assumption | omega) (by first | with_reducible rfl | with_reducible assumption | omega)
            have e64 : ExR ta (tf 6).toInt na48 ma49 v52 (pf28 13).toInt (pf47 13).toInt (3 * (bp ta (pf47 11) - bp ta (pf28 11))) (pf28 12).toInt := e64
            have ht_v52 := e64
            have hn_ht_v52 := ht_v52.num
            have e65 : FsI (tf 6).toInt (pf47 13).toInt na48 := e65
            have hfs := e65
            have hw : pw D A s.heap H locs [wdP cs h r g tf ta pf47 na48 ma49 wa50 cf ca ef ea xf xa] := hw
            have lv52 := Int32.le_toInt v52
            have uv52 := Int32.toInt_lt v52
            refine lv_istore_n (lv' := [(2, .int v52), (0, .ref h), (1, .int x29_1), (3, .int x29_3), (4, .int x29_4)]) S.x S.b d_Mpg_binary_119 rfl hl (by decide) rfl (fun ls hl => ?_)
            refine lv_aload_n S.x S.b d_Mpg_binary_120 rfl (lv_at hl 1 rfl) ?_
            refine lv_aload_n S.x S.b d_Mpg_binary_121 rfl (lv_at hl 1 rfl) ?_
            refine px_get S k_Mpg hT hw 0 0 11 (v := .int (pf47 11)) rfl rfl rfl (by decide) m9_235 d_Mpg_binary_122 ?_
            refine px_calli (pr := []) (px_runV (As := [.int (pf47 11)]) (rest := []) S (c_mp_rank l D cs h r g tf ta pf47 na48 ma49 wa50 cf ca ef ea xf xa (pf47 11)  (show 0 ≤ (pf47 11).toInt from by first | exact oz_06fa2c383c e53 e31 g0 k29_6 | omega) (show (pf47 11).toInt < (tf 6).toInt from by first | exact e54 | omega) (show (tf 6).toInt ≤ 2049 from by first | exact g2 | omega) htk _) hT (pr := []) (pcs := [wdP cs h r g tf ta pf47 na48 ma49 wa50 cf ca ef ea xf xa]) hw (oX_call (P := (fun A U H => (oP A g U H))) (pr := []) oG_P hw hA hP) (px_recv hT hw 0 0 rfl rfl rfl) m12_69 m12_66 m12_68 ms_10_2 m1_21 q_Mpg_rank ⟨show 4 + 1 ≤ (8 * lv + 18) from by first | with_reducible rfl | with_reducible assumption | omega, show 8 + (4 + 11) + 160 ≤ (220 * lv + 660) from by first | with_reducible rfl | with_reducible assumption | omega⟩ hl.1 rfl (Nat.le_of_ble_eq_true rfl) d_Mpg_binary_125 ⟨Nat.le_of_ble_eq_true rfl, Nat.le_of_ble_eq_true rfl⟩) hw hA (fun v67 p66 H locs hp66 hw => ?_)
            obtain ⟨rfl, e68, e69, e70, e71⟩ := hp66
            have e68 : 0 ≤ v67.toInt := e68
            have e69 : v67.toInt ≤ 10 := e69
            have e70 : 1 ≤ v67.toInt → (pf47 11).toInt + 1 < (tf 6).toInt ∧ so ta (pf47 11) = 5 := e70
            have e71 : 1 ≤ v67.toInt → v67.toInt ≤ 2 → sz ta (pf47 11) = 2 := e71
            have hw : pw D A s.heap H locs [wdP cs h r g tf ta pf47 na48 ma49 wa50 cf ca ef ea xf xa] := hw
            have lv67 := Int32.le_toInt v67
            have uv67 := Int32.toInt_lt v67
            refine lv_istore (lv' := [(4, .int v67), (2, .int v52), (0, .ref h), (1, .int x29_1), (3, .int x29_3)]) S.x S.b d_Mpg_binary_128 hl (by decide) rfl (fun ls hl => ?_)
            refine lv_goto (tgt := 22) S.x S.b d_Mpg_binary_130 (by decide) ?_
            exact ih22 pf47 na48 ma49 wa50 x29_1 v52 x29_3 v67 _ _ ls (show (pf47 24).toInt = (pf 24).toInt from by first | exact oz_e13fc83238 k29_0 e59 e38 | omega) (show (pf47 25).toInt = (pf 25).toInt from by first | exact oz_e13fc83238 k29_1 e60 e39 | omega) (show x29_1.toInt = (pf 26).toInt from by first | exact k29_2 | omega) (show (pf 26).toInt ≤ (pf47 26).toInt from by first | exact oz_cd6c4c9ac0 k29_3 e61 e40 tz42 | omega) (show (pf47 12).toInt = (pf 12).toInt + (pf47 26).toInt - (pf 26).toInt from by first | exact oz_9227a722d6 k29_4 e58 e61 e35 e40 tz42 | omega) (show (pf47 12).toInt ≤ 60 from by first | exact oz_1a76b13bbc e58 e35 e36 | omega) (show (pf 11).toInt + 1 ≤ (pf47 11).toInt from by first | exact oz_ffc6f0ebe6 k29_6 e53 e31 | omega) (show (pf47 11).toInt < (tf 6).toInt from by first | exact e54 | omega) (show (pf 13).toInt + 1 ≤ (pf47 13).toInt from by first | exact oz_fab14cc7ba k29_8 e55 e37 | omega) (show (pf47 13).toInt - (pf 13).toInt + (pf47 26).toInt - (pf 26).toInt ≤ (pf47 11).toInt - (pf 11).toInt from by first | exact oz_e1398ad06f k29_9 e56 e61 e31 e37 e40 tz42 | omega) (show bp ta (pf 11) + 1 ≤ bp ta (pf47 11) from by first | with_reducible rfl | with_reducible assumption | omega) (show 0 ≤ x29_3.toInt from by first | exact k29_11 | omega) (show x29_3.toInt ≤ 1 from by first | exact k29_12 | omega) (show FrB (pf 13).toInt na ma na48 ma49 from hfb) (show FrW (pf 26).toInt wa wa50 from hfw) (show BinV ta (tf 6).toInt na48 ma49 wa50 (pf 26).toInt (pf 12).toInt ((pf47 26).toInt - (pf 26).toInt) v52 (pf 13).toInt (pf47 13).toInt (3 * (bp ta (pf47 11) - bp ta (pf 11))) from ⟨_, _, _, ws_eq hws (by first | with_reducible rfl | with_reducible assumption | omega), (ExR.le ht_v52 (by first | with_reducible rfl | with_reducible assumption | omega) (by first | with_reducible rfl | with_reducible assumption | omega) (Int.le_refl _) (by first | with_reducible rfl | with_reducible assumption | omega)), by first | with_reducible rfl | with_reducible assumption | omega⟩) (show FsI (tf 6).toInt (pf47 13).toInt na48 from (FsI.le hfs (by first | with_reducible rfl | with_reducible assumption | omega))) (show v67.toInt ≤ 10 from by first | exact e69 | omega) (show 1 ≤ v67.toInt → (pf47 11).toInt + 1 < (tf 6).toInt ∧ so ta (pf47 11) = 5 from by first | exact e70 | omega) (show 1 ≤ v67.toInt → v67.toInt ≤ 2 → sz ta (pf47 11) = 2 from by first | exact e71 | omega) (show (tf 6).toInt - (pf47 11).toInt < (n_22 : Int) from by first | exact oz_81262f5537 k29_18 e53 e31 | omega) hw (lv_sub hl [2, 3, 1, 4, 0] rfl)
          · have nc23 : ¬ (pf_29 26).toInt ≤ x29_1.toInt := mt (i_le (x := (pf_29 26)) (y := x29_1)).mpr c23
            refine lv_aload_n S.x S.b d_Mpg_binary_37 rfl (lv_at hl 0 rfl) ?_
            refine px_get S k_Mpg hT hw 0 0 27 (v := .ref (r 27)) rfl rfl rfl (by decide) m10_15 d_Mpg_binary_38 ?_
            refine lv_aload_n S.x S.b d_Mpg_binary_41 rfl (lv_at hl 0 rfl) ?_
            refine px_get S k_Mpg hT hw 0 0 26 (v := .int (pf_29 26)) rfl rfl rfl (by decide) m10_14 d_Mpg_binary_42 ?_
            refine lv_iconst (v := 1) S.x S.b d_Mpg_binary_45 (by decide) ?_
            refine lv_isub S.x S.b d_Mpg_binary_46 ?_
            have lr72 := Int32.le_toInt (pf_29 26)
            have ur72 := Int32.toInt_lt (pf_29 26)
            refine lv_topi (fun z73 ez73 => ?_)
            have tz73 : z73.toInt = ((pf_29 26).toInt - (1 : Int) + 2147483648) % 4294967296 - 2147483648 := by rw [ez73]; exact i_sub (pf_29 26) 1
            have lz73 := Int32.le_toInt z73
            have uz73 := Int32.toInt_lt z73
            try replace tz73 : z73.toInt = (pf_29 26).toInt - (1 : Int) := by omega
            refine px_iald S hT hw 0 20 (n := 700) (f := (wa_29 27)) rfl gp_27 (x := z73) (vp_in_iff.mpr (by first | exact oz_18204f75de tz73 nc23 g7 k29_2 k29_4 g8 k29_5 | (constructor <;> omega))) d_Mpg_binary_47 ?_
            refine lv_topi (fun z74 ez74 => ?_)
            have lz74 := Int32.le_toInt z74
            have uz74 := Int32.toInt_lt z74
            refine lv_iload S.x S.b d_Mpg_binary_48 (lv_at hl 4 rfl) ?_
            refine lv_icmp_lt (tgt := 62) S.x S.b d_Mpg_binary_50 (by decide) (fun c75 => ?_) (fun c75 => ?_)
            · have nc75 : z74.toInt < x29_4.toInt := (i_lt (x := z74) (y := x29_4)).mp c75
              refine lv_aload_n S.x S.b d_Mpg_binary_62 rfl (lv_at hl 0 rfl) ?_
              refine px_get S k_Mpg hT hw 0 0 27 (v := .ref (r 27)) rfl rfl rfl (by decide) m10_15 d_Mpg_binary_63 ?_
              refine lv_aload_n S.x S.b d_Mpg_binary_66 rfl (lv_at hl 0 rfl) ?_
              refine px_get S k_Mpg hT hw 0 0 26 (v := .int (pf_29 26)) rfl rfl rfl (by decide) m10_14 d_Mpg_binary_67 ?_
              refine lv_iload S.x S.b d_Mpg_binary_70 (lv_at hl 4 rfl) ?_
              refine px_iast S hT hw 0 20 (n := 700) (f := (wa_29 27)) (x := (pf_29 26)) (y := x29_4) rfl gp_27 (vp_in_iff.mpr (by constructor <;> omega)) d_Mpg_binary_72 (w' := wdP cs h r g tf ta pf_29 na_29 ma_29 (va_up wa_29 27 (upd (wa_29 27) (pf_29 26).toNatClampNeg x29_4)) cf ca ef ea xf xa) (ps' := [wdP cs h r g tf ta pf_29 na_29 ma_29 (va_up wa_29 27 (upd (wa_29 27) (pf_29 26).toNatClampNeg x29_4)) cf ca ef ea xf xa]) sp_27 rfl (fun H locs hw => ?_)
              refine lv_aload_n S.x S.b d_Mpg_binary_73 rfl (lv_at hl 0 rfl) ?_
              refine px_get S k_Mpg hT hw 0 0 28 (v := .ref (r 28)) rfl rfl rfl (by decide) m10_16 d_Mpg_binary_74 ?_
              refine lv_aload_n S.x S.b d_Mpg_binary_77 rfl (lv_at hl 0 rfl) ?_
              refine px_get S k_Mpg hT hw 0 0 26 (v := .int (pf_29 26)) rfl rfl rfl (by decide) m10_14 d_Mpg_binary_78 ?_
              refine lv_aload_n S.x S.b d_Mpg_binary_81 rfl (lv_at hl 0 rfl) ?_
              refine px_get S k_Mpg hT hw 0 0 11 (v := .int (pf_29 11)) rfl rfl rfl (by decide) m9_235 d_Mpg_binary_82 ?_
              refine px_iast S hT hw 0 21 (n := 700) (f := ((va_up wa_29 27 (upd (wa_29 27) (pf_29 26).toNatClampNeg x29_4)) 28)) (x := (pf_29 26)) (y := (pf_29 11)) rfl gp_28 (vp_in_iff.mpr (by constructor <;> omega)) d_Mpg_binary_85 (w' := wdP cs h r g tf ta pf_29 na_29 ma_29 (va_up (va_up wa_29 27 (upd (wa_29 27) (pf_29 26).toNatClampNeg x29_4)) 28 (upd ((va_up wa_29 27 (upd (wa_29 27) (pf_29 26).toNatClampNeg x29_4)) 28) (pf_29 26).toNatClampNeg (pf_29 11))) cf ca ef ea xf xa) (ps' := [wdP cs h r g tf ta pf_29 na_29 ma_29 (va_up (va_up wa_29 27 (upd (wa_29 27) (pf_29 26).toNatClampNeg x29_4)) 28 (upd ((va_up wa_29 27 (upd (wa_29 27) (pf_29 26).toNatClampNeg x29_4)) 28) (pf_29 26).toNatClampNeg (pf_29 11))) cf ca ef ea xf xa]) sp_28 rfl (fun H locs hw => ?_)
              refine lv_aload_n S.x S.b d_Mpg_binary_86 rfl (lv_at hl 0 rfl) ?_
              refine px_get S k_Mpg hT hw 0 0 29 (v := .ref (r 29)) rfl rfl rfl (by decide) m10_17 d_Mpg_binary_87 ?_
              refine lv_aload_n S.x S.b d_Mpg_binary_90 rfl (lv_at hl 0 rfl) ?_
              refine px_get S k_Mpg hT hw 0 0 26 (v := .int (pf_29 26)) rfl rfl rfl (by decide) m10_14 d_Mpg_binary_91 ?_
              refine lv_iload_n S.x S.b d_Mpg_binary_94 rfl (lv_at hl 2 rfl) ?_
              refine px_iast S hT hw 0 22 (n := 700) (f := ((va_up (va_up wa_29 27 (upd (wa_29 27) (pf_29 26).toNatClampNeg x29_4)) 28 (upd ((va_up wa_29 27 (upd (wa_29 27) (pf_29 26).toNatClampNeg x29_4)) 28) (pf_29 26).toNatClampNeg (pf_29 11))) 29)) (x := (pf_29 26)) (y := x29_2) rfl gp_29 (vp_in_iff.mpr (by constructor <;> omega)) d_Mpg_binary_95 (w' := wdP cs h r g tf ta pf_29 na_29 ma_29 (va_up (va_up (va_up wa_29 27 (upd (wa_29 27) (pf_29 26).toNatClampNeg x29_4)) 28 (upd ((va_up wa_29 27 (upd (wa_29 27) (pf_29 26).toNatClampNeg x29_4)) 28) (pf_29 26).toNatClampNeg (pf_29 11))) 29 (upd ((va_up (va_up wa_29 27 (upd (wa_29 27) (pf_29 26).toNatClampNeg x29_4)) 28 (upd ((va_up wa_29 27 (upd (wa_29 27) (pf_29 26).toNatClampNeg x29_4)) 28) (pf_29 26).toNatClampNeg (pf_29 11))) 29) (pf_29 26).toNatClampNeg x29_2)) cf ca ef ea xf xa) (ps' := [wdP cs h r g tf ta pf_29 na_29 ma_29 (va_up (va_up (va_up wa_29 27 (upd (wa_29 27) (pf_29 26).toNatClampNeg x29_4)) 28 (upd ((va_up wa_29 27 (upd (wa_29 27) (pf_29 26).toNatClampNeg x29_4)) 28) (pf_29 26).toNatClampNeg (pf_29 11))) 29 (upd ((va_up (va_up wa_29 27 (upd (wa_29 27) (pf_29 26).toNatClampNeg x29_4)) 28 (upd ((va_up wa_29 27 (upd (wa_29 27) (pf_29 26).toNatClampNeg x29_4)) 28) (pf_29 26).toNatClampNeg (pf_29 11))) 29) (pf_29 26).toNatClampNeg x29_2)) cf ca ef ea xf xa]) sp_29 rfl (fun H locs hw => ?_)
              refine lv_aload_n S.x S.b d_Mpg_binary_96 rfl (lv_at hl 0 rfl) ?_
              refine lv_iload_n S.x S.b d_Mpg_binary_97 rfl (lv_at hl 2 rfl) ?_
              refine th_callv (ps0 := [wdP cs h r g tf ta pf na ma wa cf ca ef ea xf xa]) (pr := []) (pcs := [wdP cs h r g tf ta pf_29 na_29 ma_29 (va_up (va_up (va_up wa_29 27 (upd (wa_29 27) (pf_29 26).toNatClampNeg x29_4)) 28 (upd ((va_up wa_29 27 (upd (wa_29 27) (pf_29 26).toNatClampNeg x29_4)) 28) (pf_29 26).toNatClampNeg (pf_29 11))) 29 (upd ((va_up (va_up wa_29 27 (upd (wa_29 27) (pf_29 26).toNatClampNeg x29_4)) 28 (upd ((va_up wa_29 27 (upd (wa_29 27) (pf_29 26).toNatClampNeg x29_4)) 28) (pf_29 26).toNatClampNeg (pf_29 11))) 29) (pf_29 26).toNatClampNeg x29_2)) cf ca ef ea xf xa]) (As := [.int x29_2]) (rest := []) (c_mp_stands l D cs h r g tf ta pf_29 na_29 ma_29 (va_up (va_up (va_up wa_29 27 (upd (wa_29 27) (pf_29 26).toNatClampNeg x29_4)) 28 (upd ((va_up wa_29 27 (upd (wa_29 27) (pf_29 26).toNatClampNeg x29_4)) 28) (pf_29 26).toNatClampNeg (pf_29 11))) 29 (upd ((va_up (va_up wa_29 27 (upd (wa_29 27) (pf_29 26).toNatClampNeg x29_4)) 28 (upd ((va_up wa_29 27 (upd (wa_29 27) (pf_29 26).toNatClampNeg x29_4)) 28) (pf_29 26).toNatClampNeg (pf_29 11))) 29) (pf_29 26).toNatClampNeg x29_2)) cf ca ef ea xf xa x29_2  (show 0 ≤ (pf_29 11).toInt from by first | exact oz_06d7f15a5c k29_6 g0 | omega) (show (pf_29 11).toInt < (tf 6).toInt from by first | exact k29_7 | omega) (show 0 ≤ x29_2.toInt from by first | with_reducible rfl | with_reducible assumption | omega) (show x29_2.toInt < 2100 from by first | with_reducible rfl | with_reducible assumption | omega) (show 0 ≤ dp na_29 x29_2 from by first | with_reducible rfl | with_reducible assumption | omega) (show dp na_29 x29_2 ≤ 1000 from by first | with_reducible rfl | with_reducible assumption | omega) (show 0 ≤ (pf_29 12).toInt from by first | exact oz_350799c346 k29_4 g7 g8 k29_2 nc23 | omega) (show (pf_29 12).toInt ≤ 60 from by first | exact k29_5 | omega) hlf htk) S hT hw (oX_call (P := (fun A U H => (oN A U H) ∧ (oP A g U H))) (pr := []) (oG_and oG_N oG_P) hw hA ⟨hN, hP⟩) (px_recv hT hw 0 0 rfl rfl rfl) m12_46 m12_43 m12_45 ms_9_13 m1_21 q_Mpg_stands2 ⟨show 7 + 1 ≤ (8 * lv + 18) from by first | with_reducible rfl | with_reducible assumption | omega, show 8 + (2 + 11) + 150 ≤ (220 * lv + 660) from by first | with_reducible rfl | with_reducible assumption | omega⟩ hl.1 rfl (Nat.le_of_ble_eq_true rfl) d_Mpg_binary_98 ⟨Nat.le_of_ble_eq_true rfl, Nat.le_of_ble_eq_true rfl⟩ hne hlk hA hAe (fun o t h => Or.inr h) ?_ (fun p76 H locs hp76 hw => ?_)
              · exact fun p1 H1 locs1 hp hw => by obtain ⟨pq1, pq2, pq3, pq4, rfl, hq1, hq2⟩ := hp; exact ⟨_, ⟨pq1, pq2, pq3, pq4, rfl, hq1, hq2⟩, hw⟩
              obtain ⟨rfl, e78⟩ := hp76
              have e78 : (pf_29 12).toInt + dp na_29 x29_2 < 60 := e78
              have hw : pw D A s.heap H locs [wdP cs h r g tf ta pf_29 na_29 ma_29 (va_up (va_up (va_up wa_29 27 (upd (wa_29 27) (pf_29 26).toNatClampNeg x29_4)) 28 (upd ((va_up wa_29 27 (upd (wa_29 27) (pf_29 26).toNatClampNeg x29_4)) 28) (pf_29 26).toNatClampNeg (pf_29 11))) 29 (upd ((va_up (va_up wa_29 27 (upd (wa_29 27) (pf_29 26).toNatClampNeg x29_4)) 28 (upd ((va_up wa_29 27 (upd (wa_29 27) (pf_29 26).toNatClampNeg x29_4)) 28) (pf_29 26).toNatClampNeg (pf_29 11))) 29) (pf_29 26).toNatClampNeg x29_2)) cf ca ef ea xf xa] := hw
              refine lv_aload_n S.x S.b d_Mpg_binary_101 rfl (lv_at hl 0 rfl) ?_
              refine th_callv (ps0 := [wdP cs h r g tf ta pf na ma wa cf ca ef ea xf xa]) (pr := []) (pcs := [wdP cs h r g tf ta pf_29 na_29 ma_29 (va_up (va_up (va_up wa_29 27 (upd (wa_29 27) (pf_29 26).toNatClampNeg x29_4)) 28 (upd ((va_up wa_29 27 (upd (wa_29 27) (pf_29 26).toNatClampNeg x29_4)) 28) (pf_29 26).toNatClampNeg (pf_29 11))) 29 (upd ((va_up (va_up wa_29 27 (upd (wa_29 27) (pf_29 26).toNatClampNeg x29_4)) 28 (upd ((va_up wa_29 27 (upd (wa_29 27) (pf_29 26).toNatClampNeg x29_4)) 28) (pf_29 26).toNatClampNeg (pf_29 11))) 29) (pf_29 26).toNatClampNeg x29_2)) cf ca ef ea xf xa]) (As := []) (rest := []) (c_mp_opens l D cs h r g tf ta na_29 ma_29 (va_up (va_up (va_up wa_29 27 (upd (wa_29 27) (pf_29 26).toNatClampNeg x29_4)) 28 (upd ((va_up wa_29 27 (upd (wa_29 27) (pf_29 26).toNatClampNeg x29_4)) 28) (pf_29 26).toNatClampNeg (pf_29 11))) 29 (upd ((va_up (va_up wa_29 27 (upd (wa_29 27) (pf_29 26).toNatClampNeg x29_4)) 28 (upd ((va_up wa_29 27 (upd (wa_29 27) (pf_29 26).toNatClampNeg x29_4)) 28) (pf_29 26).toNatClampNeg (pf_29 11))) 29) (pf_29 26).toNatClampNeg x29_2)) cf ca ef ea xf xa pf_29   (show 0 ≤ (pf_29 11).toInt from by first | exact oz_06d7f15a5c k29_6 g0 | omega) (show (pf_29 11).toInt < (tf 6).toInt from by first | exact k29_7 | omega) (show (tf 6).toInt ≤ 2049 from by first | exact g2 | omega) (show (pf_29 11).toInt + 1 < (tf 6).toInt from by first | with_reducible rfl | with_reducible assumption | omega) (show 0 ≤ (pf_29 12).toInt from by first | exact oz_350799c346 k29_4 g7 g8 k29_2 nc23 | omega) (show (pf_29 12).toInt ≤ 60 from by first | exact k29_5 | omega) hlf htk) S hT hw (oX_call (P := (fun A U H => (oN A U H) ∧ (oP A g U H))) (pr := []) (oG_and oG_N oG_P) hw hA ⟨hN, hP⟩) (px_recv hT hw 0 0 rfl rfl rfl) m11_238 m11_235 m11_237 ms_9_1 m1_21 q_Mpg_opens ⟨show 7 + 1 ≤ (8 * lv + 18) from by first | with_reducible rfl | with_reducible assumption | omega, show 8 + (1 + 11) + 150 ≤ (220 * lv + 660) from by first | with_reducible rfl | with_reducible assumption | omega⟩ hl.1 rfl (Nat.le_of_ble_eq_true rfl) d_Mpg_binary_102 ⟨Nat.le_of_ble_eq_true rfl, Nat.le_of_ble_eq_true rfl⟩ hne hlk hA hAe (fun o t h => Or.inr h) ?_ (fun p81 H locs hp81 hw => ?_)
              · exact fun p1 H1 locs1 hp hw => by obtain ⟨pq1, pq2, pq3, pq4, rfl, hq1, hq2⟩ := hp; exact ⟨_, ⟨pq1, pq2, pq3, pq4, rfl, hq1, hq2⟩, hw⟩
              obtain ⟨pf80, rfl, e83, e84, e85, e86, e87, e88, e89, e90, e91, e92⟩ := hp81
              have e83 : (pf80 11).toInt = (pf_29 11).toInt + 1 := e83
              have e84 : (pf80 11).toInt < (tf 6).toInt := e84
              have e85 : bp ta (pf_29 11) + sz ta (pf_29 11) ≤ bp ta (pf80 11) := e85
              have e86 : 1 ≤ sz ta (pf_29 11) := e86
              have e87 : (pf80 12).toInt = (pf_29 12).toInt + 1 := e87
              have e88 : (pf_29 12).toInt < 60 := e88
              have e89 : (pf80 13).toInt = (pf_29 13).toInt := e89
              have e90 : (pf80 24).toInt = (pf_29 24).toInt := e90
              have e91 : (pf80 25).toInt = (pf_29 25).toInt := e91
              have e92 : (pf80 26).toInt = (pf_29 26).toInt := e92
              have hw : pw D A s.heap H locs [wdP cs h r g tf ta pf80 na_29 ma_29 (va_up (va_up (va_up wa_29 27 (upd (wa_29 27) (pf_29 26).toNatClampNeg x29_4)) 28 (upd ((va_up wa_29 27 (upd (wa_29 27) (pf_29 26).toNatClampNeg x29_4)) 28) (pf_29 26).toNatClampNeg (pf_29 11))) 29 (upd ((va_up (va_up wa_29 27 (upd (wa_29 27) (pf_29 26).toNatClampNeg x29_4)) 28 (upd ((va_up wa_29 27 (upd (wa_29 27) (pf_29 26).toNatClampNeg x29_4)) 28) (pf_29 26).toNatClampNeg (pf_29 11))) 29) (pf_29 26).toNatClampNeg x29_2)) cf ca ef ea xf xa] := hw
              obtain ⟨X, hX⟩ : ∃ X : Int, X = (if x29_4.toInt < 3 then 4 else 0) := ⟨_, rfl⟩; have hX2 : (x29_4.toInt < 3 → 4 ≤ X) ∧ 0 ≤ X ∧ (3 ≤ x29_4.toInt → X = 0) ∧ X ≤ 4 := (by rw [hX]; split <;> omega); clear hX; obtain ⟨hws, hfwP⟩ := ws_push (rk := x29_4) (tk := (pf_29 11)) (i := (pf_29 26)) (X := X) hws (ExR.le ht_x29_2 (Int.le_refl _) (Int.le_refl _) (Int.le_refl _) (by first | with_reducible rfl | with_reducible assumption | omega)) (by first | with_reducible rfl | with_reducible assumption | omega) (by first | with_reducible rfl | with_reducible assumption | omega) (by first | with_reducible rfl | with_reducible assumption | omega) (by first | with_reducible rfl | with_reducible assumption | omega) (by first | with_reducible rfl | with_reducible assumption | omega) ⟨by first | with_reducible rfl | with_reducible assumption | omega, by first | with_reducible rfl | with_reducible assumption | omega, by first | with_reducible rfl | with_reducible assumption | omega⟩ ⟨hX2.1, hX2.2.1⟩ rfl rfl rfl; have hfw := hfw.tr hfwP (by first | with_reducible rfl | with_reducible assumption | omega); have hwr := hws.rng
              refine lv_aload_n S.x S.b d_Mpg_binary_105 rfl (lv_at hl 0 rfl) ?_
              refine lv_dup S.x S.b d_Mpg_binary_106 rfl ?_
              refine px_get S k_Mpg hT hw 0 0 26 (v := .int (pf80 26)) rfl rfl rfl (by decide) m10_14 d_Mpg_binary_107 ?_
              refine lv_iconst (v := 1) S.x S.b d_Mpg_binary_110 (by decide) ?_
              refine lv_iadd S.x S.b d_Mpg_binary_111 ?_
              have lr93 := Int32.le_toInt (pf80 26)
              have ur93 := Int32.toInt_lt (pf80 26)
              refine lv_topi (fun z94 ez94 => ?_)
              have tz94 : z94.toInt = ((pf80 26).toInt + (1 : Int) + 2147483648) % 4294967296 - 2147483648 := by rw [ez94]; exact i_add (pf80 26) 1
              have lz94 := Int32.le_toInt z94
              have uz94 := Int32.toInt_lt z94
              try replace tz94 : z94.toInt = (pf80 26).toInt + (1 : Int) := by omega
              refine px_put S k_Mpg hT hw 0 0 26 rfl rfl (by decide) m10_14 rfl rfl rfl (Nat.le_of_ble_eq_true rfl) d_Mpg_binary_112 (w' := wdP cs h r g tf ta (upd pf80 26 z94) na_29 ma_29 (va_up (va_up (va_up wa_29 27 (upd (wa_29 27) (pf_29 26).toNatClampNeg x29_4)) 28 (upd ((va_up wa_29 27 (upd (wa_29 27) (pf_29 26).toNatClampNeg x29_4)) 28) (pf_29 26).toNatClampNeg (pf_29 11))) 29 (upd ((va_up (va_up wa_29 27 (upd (wa_29 27) (pf_29 26).toNatClampNeg x29_4)) 28 (upd ((va_up wa_29 27 (upd (wa_29 27) (pf_29 26).toNatClampNeg x29_4)) 28) (pf_29 26).toNatClampNeg (pf_29 11))) 29) (pf_29 26).toNatClampNeg x29_2)) cf ca ef ea xf xa) (ps' := [wdP cs h r g tf ta (upd pf80 26 z94) na_29 ma_29 (va_up (va_up (va_up wa_29 27 (upd (wa_29 27) (pf_29 26).toNatClampNeg x29_4)) 28 (upd ((va_up wa_29 27 (upd (wa_29 27) (pf_29 26).toNatClampNeg x29_4)) 28) (pf_29 26).toNatClampNeg (pf_29 11))) 29 (upd ((va_up (va_up wa_29 27 (upd (wa_29 27) (pf_29 26).toNatClampNeg x29_4)) 28 (upd ((va_up wa_29 27 (upd (wa_29 27) (pf_29 26).toNatClampNeg x29_4)) 28) (pf_29 26).toNatClampNeg (pf_29 11))) 29) (pf_29 26).toNatClampNeg x29_2)) cf ca ef ea xf xa]) rfl rfl (fun H locs hw => ?_)
              refine lv_aload_n S.x S.b d_Mpg_binary_115 rfl (lv_at hl 0 rfl) ?_
              refine th_calli (ps0 := [wdP cs h r g tf ta pf na ma wa cf ca ef ea xf xa]) (pr := []) (pcs := [wdP cs h r g tf ta (upd pf80 26 z94) na_29 ma_29 (va_up (va_up (va_up wa_29 27 (upd (wa_29 27) (pf_29 26).toNatClampNeg x29_4)) 28 (upd ((va_up wa_29 27 (upd (wa_29 27) (pf_29 26).toNatClampNeg x29_4)) 28) (pf_29 26).toNatClampNeg (pf_29 11))) 29 (upd ((va_up (va_up wa_29 27 (upd (wa_29 27) (pf_29 26).toNatClampNeg x29_4)) 28 (upd ((va_up wa_29 27 (upd (wa_29 27) (pf_29 26).toNatClampNeg x29_4)) 28) (pf_29 26).toNatClampNeg (pf_29 11))) 29) (pf_29 26).toNatClampNeg x29_2)) cf ca ef ea xf xa]) (As := []) (rest := []) (c_mp_unary l D cs h r g tf ta cf ca ef ea xf xa (upd pf80 26 z94) na_29 ma_29 (va_up (va_up (va_up wa_29 27 (upd (wa_29 27) (pf_29 26).toNatClampNeg x29_4)) 28 (upd ((va_up wa_29 27 (upd (wa_29 27) (pf_29 26).toNatClampNeg x29_4)) 28) (pf_29 26).toNatClampNeg (pf_29 11))) 29 (upd ((va_up (va_up wa_29 27 (upd (wa_29 27) (pf_29 26).toNatClampNeg x29_4)) 28 (upd ((va_up wa_29 27 (upd (wa_29 27) (pf_29 26).toNatClampNeg x29_4)) 28) (pf_29 26).toNatClampNeg (pf_29 11))) 29) (pf_29 26).toNatClampNeg x29_2))  lv (show 0 ≤ (pf80 11).toInt from by first | exact oz_184ed96a99 e83 k29_6 g0 | omega) (show (pf80 11).toInt < (tf 6).toInt from by first | exact e84 | omega) (show (tf 6).toInt ≤ 2049 from by first | exact g2 | omega) (show 0 ≤ (pf80 12).toInt from by first | exact oz_95debe4d41 e87 k29_4 g7 g8 k29_2 nc23 | omega) (show (pf80 12).toInt ≤ 60 from by first | exact oz_6710fd9021 e87 e88 | omega) (show 0 ≤ (pf80 13).toInt from by first | exact oz_0cb63e6fad e89 k29_8 g5 | omega) (show (pf80 13).toInt ≤ (pf80 11).toInt + 20 from by first | exact oz_b32a0c3459 e83 e89 k29_9 g6 k29_2 nc23 | omega) (show 0 ≤ z94.toInt from by first | exact oz_4ddeb991d9 tz94 e92 nc23 g7 k29_2 | omega) (show z94.toInt ≤ (pf80 12).toInt from by first | exact oz_6f93422adf e87 tz94 k29_4 e92 g8 | omega) (show 61 ≤ (pf80 12).toInt + (lv : Int) from by first | exact oz_1f685babc6 g9 e87 k29_4 k29_2 nc23 | omega) (show lv ≤ 61 from by first | exact g10 | omega) hlf htk (FsI.le (N' := (pf80 13).toInt) hfs (by first | with_reducible rfl | with_reducible assumption | omega)) hE) S hT hw (oX_call (P := (fun A U H => (oN A U H) ∧ (oP A g U H))) (pr := []) (oG_and oG_N oG_P) hw hA ⟨hN, hP⟩) (px_recv hT hw 0 0 rfl rfl rfl) m12_22 m12_19 m12_21 ms_9_7 m1_21 q_Mpg_unary ⟨show (8 * lv + 17) + 1 ≤ (8 * lv + 18) from by first | with_reducible rfl | with_reducible assumption | omega, show 8 + (6 + 11) + (220 * lv + 630) ≤ (220 * lv + 660) from by first | with_reducible rfl | with_reducible assumption | omega⟩ hl.1 rfl (Nat.le_of_ble_eq_true rfl) d_Mpg_binary_116 ⟨Nat.le_of_ble_eq_true rfl, Nat.le_of_ble_eq_true rfl⟩ hne hlk hA hAe (fun o t h => Or.inr h) ?_ (fun v104 p103 H locs hp103 hw => ?_)
              · exact fun p1 H1 locs1 hp hw => by obtain ⟨pq1, pq2, pq3, pq4, rfl, hq1, hq2⟩ := hp; exact ⟨_, ⟨pq1, pq2, pq3, pq4, rfl, hq1, hq2⟩, hw⟩
              obtain ⟨pf99, na100, ma101, wa102, rfl, e105, e106, e107, e108, e109, e110, e111, e112, e113, e114, e115, e116, e117⟩ := hp103
              have e105 : (pf80 11).toInt + 1 ≤ (pf99 11).toInt := e105
              have e106 : (pf99 11).toInt < (tf 6).toInt := e106
              have e107 : (pf80 13).toInt + 1 ≤ (pf99 13).toInt := e107
              have e108 : (pf99 13).toInt - (pf80 13).toInt ≤ (pf99 11).toInt - (pf80 11).toInt := e108
              have e109 : bp ta (pf80 11) + 1 ≤ bp ta (pf99 11) := e109
              have e110 : (pf99 12).toInt = (pf80 12).toInt := e110
              have e111 : (pf99 24).toInt = (pf80 24).toInt := e111
              have e112 : (pf99 25).toInt = (pf80 25).toInt := e112
              have e113 : (pf99 26).toInt = z94.toInt := e113
              have e114 : FrB (pf80 13).toInt na_29 ma_29 na100 ma101 := e114
              have hws := hws.kp e114 (by first | with_reducible rfl | with_reducible assumption | omega) (by first | with_reducible rfl | with_reducible assumption | omega)
              have hfb := hfb.tr e114 (by first | with_reducible rfl | with_reducible assumption | omega)
              have e115 : FrW z94.toInt (va_up (va_up (va_up wa_29 27 (upd (wa_29 27) (pf_29 26).toNatClampNeg x29_4)) 28 (upd ((va_up wa_29 27 (upd (wa_29 27) (pf_29 26).toNatClampNeg x29_4)) 28) (pf_29 26).toNatClampNeg (pf_29 11))) 29 (upd ((va_up (va_up wa_29 27 (upd (wa_29 27) (pf_29 26).toNatClampNeg x29_4)) 28 (upd ((va_up wa_29 27 (upd (wa_29 27) (pf_29 26).toNatClampNeg x29_4)) 28) (pf_29 26).toNatClampNeg (pf_29 11))) 29) (pf_29 26).toNatClampNeg x29_2)) wa102 := e115
              have hfw := hfw.tr e115 (by first | with_reducible rfl | with_reducible assumption | omega)
              have hws := hws.kw e115 (by first | with_reducible rfl | with_reducible assumption | omega) (by first | with_reducible rfl | with_reducible assumption | omega)
              have e116 : ExR ta (tf 6).toInt na100 ma101 v104 (pf80 13).toInt (pf99 13).toInt (3 * (bp ta (pf99 11) - bp ta (pf80 11))) (pf80 12).toInt := e116
              have ht_v104 := e116
              have hn_ht_v104 := ht_v104.num
              have e117 : FsI (tf 6).toInt (pf99 13).toInt na100 := e117
              have hfs := e117
              have hw : pw D A s.heap H locs [wdP cs h r g tf ta pf99 na100 ma101 wa102 cf ca ef ea xf xa] := hw
              have lv104 := Int32.le_toInt v104
              have uv104 := Int32.toInt_lt v104
              refine lv_istore_n (lv' := [(2, .int v104), (0, .ref h), (1, .int x29_1), (3, .int x29_3), (4, .int x29_4)]) S.x S.b d_Mpg_binary_119 rfl hl (by decide) rfl (fun ls hl => ?_)
              refine lv_aload_n S.x S.b d_Mpg_binary_120 rfl (lv_at hl 1 rfl) ?_
              refine lv_aload_n S.x S.b d_Mpg_binary_121 rfl (lv_at hl 1 rfl) ?_
              refine px_get S k_Mpg hT hw 0 0 11 (v := .int (pf99 11)) rfl rfl rfl (by decide) m9_235 d_Mpg_binary_122 ?_
              refine px_calli (pr := []) (px_runV (As := [.int (pf99 11)]) (rest := []) S (c_mp_rank l D cs h r g tf ta pf99 na100 ma101 wa102 cf ca ef ea xf xa (pf99 11)  (show 0 ≤ (pf99 11).toInt from by first | exact oz_06fa2c383c e105 e83 g0 k29_6 | omega) (show (pf99 11).toInt < (tf 6).toInt from by first | exact e106 | omega) (show (tf 6).toInt ≤ 2049 from by first | exact g2 | omega) htk _) hT (pr := []) (pcs := [wdP cs h r g tf ta pf99 na100 ma101 wa102 cf ca ef ea xf xa]) hw (oX_call (P := (fun A U H => (oP A g U H))) (pr := []) oG_P hw hA hP) (px_recv hT hw 0 0 rfl rfl rfl) m12_69 m12_66 m12_68 ms_10_2 m1_21 q_Mpg_rank ⟨show 4 + 1 ≤ (8 * lv + 18) from by first | with_reducible rfl | with_reducible assumption | omega, show 8 + (4 + 11) + 160 ≤ (220 * lv + 660) from by first | with_reducible rfl | with_reducible assumption | omega⟩ hl.1 rfl (Nat.le_of_ble_eq_true rfl) d_Mpg_binary_125 ⟨Nat.le_of_ble_eq_true rfl, Nat.le_of_ble_eq_true rfl⟩) hw hA (fun v119 p118 H locs hp118 hw => ?_)
              obtain ⟨rfl, e120, e121, e122, e123⟩ := hp118
              have e120 : 0 ≤ v119.toInt := e120
              have e121 : v119.toInt ≤ 10 := e121
              have e122 : 1 ≤ v119.toInt → (pf99 11).toInt + 1 < (tf 6).toInt ∧ so ta (pf99 11) = 5 := e122
              have e123 : 1 ≤ v119.toInt → v119.toInt ≤ 2 → sz ta (pf99 11) = 2 := e123
              have hw : pw D A s.heap H locs [wdP cs h r g tf ta pf99 na100 ma101 wa102 cf ca ef ea xf xa] := hw
              have lv119 := Int32.le_toInt v119
              have uv119 := Int32.toInt_lt v119
              refine lv_istore (lv' := [(4, .int v119), (2, .int v104), (0, .ref h), (1, .int x29_1), (3, .int x29_3)]) S.x S.b d_Mpg_binary_128 hl (by decide) rfl (fun ls hl => ?_)
              refine lv_goto (tgt := 22) S.x S.b d_Mpg_binary_130 (by decide) ?_
              exact ih22 pf99 na100 ma101 wa102 x29_1 v104 x29_3 v119 _ _ ls (show (pf99 24).toInt = (pf 24).toInt from by first | exact oz_e13fc83238 k29_0 e111 e90 | omega) (show (pf99 25).toInt = (pf 25).toInt from by first | exact oz_e13fc83238 k29_1 e112 e91 | omega) (show x29_1.toInt = (pf 26).toInt from by first | exact k29_2 | omega) (show (pf 26).toInt ≤ (pf99 26).toInt from by first | exact oz_2ddc036dee k29_2 e113 nc23 e92 tz94 | omega) (show (pf99 12).toInt = (pf 12).toInt + (pf99 26).toInt - (pf 26).toInt from by first | exact oz_9227a722d6 k29_4 e110 e113 e87 e92 tz94 | omega) (show (pf99 12).toInt ≤ 60 from by first | exact oz_1a76b13bbc e110 e87 e88 | omega) (show (pf 11).toInt + 1 ≤ (pf99 11).toInt from by first | exact oz_ffc6f0ebe6 k29_6 e105 e83 | omega) (show (pf99 11).toInt < (tf 6).toInt from by first | exact e106 | omega) (show (pf 13).toInt + 1 ≤ (pf99 13).toInt from by first | exact oz_fab14cc7ba k29_8 e107 e89 | omega) (show (pf99 13).toInt - (pf 13).toInt + (pf99 26).toInt - (pf 26).toInt ≤ (pf99 11).toInt - (pf 11).toInt from by first | exact oz_e1398ad06f k29_9 e108 e113 e83 e89 e92 tz94 | omega) (show bp ta (pf 11) + 1 ≤ bp ta (pf99 11) from by first | with_reducible rfl | with_reducible assumption | omega) (show 0 ≤ x29_3.toInt from by first | exact k29_11 | omega) (show x29_3.toInt ≤ 1 from by first | exact k29_12 | omega) (show FrB (pf 13).toInt na ma na100 ma101 from hfb) (show FrW (pf 26).toInt wa wa102 from hfw) (show BinV ta (tf 6).toInt na100 ma101 wa102 (pf 26).toInt (pf 12).toInt ((pf99 26).toInt - (pf 26).toInt) v104 (pf 13).toInt (pf99 13).toInt (3 * (bp ta (pf99 11) - bp ta (pf 11))) from ⟨_, _, _, ws_eq hws (by first | with_reducible rfl | with_reducible assumption | omega), (ExR.le ht_v104 (by first | with_reducible rfl | with_reducible assumption | omega) (by first | with_reducible rfl | with_reducible assumption | omega) (Int.le_refl _) (by first | with_reducible rfl | with_reducible assumption | omega)), by first | with_reducible rfl | with_reducible assumption | omega⟩) (show FsI (tf 6).toInt (pf99 13).toInt na100 from (FsI.le hfs (by first | with_reducible rfl | with_reducible assumption | omega))) (show v119.toInt ≤ 10 from by first | exact e121 | omega) (show 1 ≤ v119.toInt → (pf99 11).toInt + 1 < (tf 6).toInt ∧ so ta (pf99 11) = 5 from by first | exact e122 | omega) (show 1 ≤ v119.toInt → v119.toInt ≤ 2 → sz ta (pf99 11) = 2 from by first | exact e123 | omega) (show (tf 6).toInt - (pf99 11).toInt < (n_22 : Int) from by first | exact oz_81262f5537 k29_18 e105 e83 | omega) hw (lv_sub hl [2, 3, 1, 4, 0] rfl)
            · have nc75 : ¬ z74.toInt < x29_4.toInt := mt (i_lt (x := z74) (y := x29_4)).mpr c75
              refine lv_aload_n S.x S.b d_Mpg_binary_53 rfl (lv_at hl 0 rfl) ?_
              refine lv_iload_n S.x S.b d_Mpg_binary_54 rfl (lv_at hl 2 rfl) ?_
              obtain ⟨lo, W0, Wl, X, a, rk, tk, hwsT, htopT, hxaT, hdpT, hrkT, htkT, hWT, hloT⟩ := hws.top (by first | with_reducible rfl | with_reducible assumption | omega); have hws := hwsT; have hwA := hxaT.wpos; have hnA := hxaT.num
              refine px_calli (pr := []) (px_runV (As := [.int x29_2]) (rest := []) S (c_mp_settle l D cs h r g tf ta wa_29 cf ca ef ea xf xa pf_29 na_29 ma_29 x29_2 a rk tk lo m2 Wl Wr X (show (tf 6).toInt ≤ 2049 from by first | exact g2 | omega) (show 1 ≤ (pf_29 26).toInt from by first | exact oz_bfcb9d5d2a nc23 g7 k29_2 | omega) (show (pf_29 26).toInt ≤ 260 from by first | exact oz_0af2ac3337 k29_4 g8 k29_5 | omega) (show 1 ≤ (pf_29 12).toInt from by first | exact oz_96577c7281 k29_4 g7 g8 k29_2 nc23 | omega) (show (pf_29 12).toInt ≤ 60 from by first | exact k29_5 | omega) (show 0 ≤ (pf_29 13).toInt from by first | exact oz_06d7f15a5c k29_8 g5 | omega) (show (pf_29 13).toInt < 2100 from by first | exact oz_d199ea808b k29_9 g6 k29_2 k29_7 nc23 g2 | omega) (show 0 ≤ lo from by first | with_reducible rfl | with_reducible assumption | omega) (show 1 ≤ rk.toInt from by first | with_reducible rfl | with_reducible assumption | omega) (show rk.toInt ≤ 10 from by first | with_reducible rfl | with_reducible assumption | omega) (show 0 ≤ tk.toInt from by first | with_reducible rfl | with_reducible assumption | omega) (show tk.toInt < (tf 6).toInt from by first | with_reducible rfl | with_reducible assumption | omega) (show so ta tk = 5 from by first | with_reducible rfl | with_reducible assumption | omega) (show dp na_29 a + (pf_29 12).toInt - 1 < 60 from by first | with_reducible rfl | with_reducible assumption | omega) (show 0 ≤ X from by first | exact oz_ed756c8324 | omega) htk (FsI.le (N' := (pf_29 13).toInt) hfs (by first | with_reducible rfl | with_reducible assumption | omega)) hWT.1 (top_eq htopT (by first | with_reducible rfl | with_reducible assumption | omega)) (ExR.le hxaT (Int.le_refl _) (Int.le_refl _) (Int.le_refl _) (by first | with_reducible rfl | with_reducible assumption | omega)) (ExR.le ht_x29_2 (Int.le_refl _) (by first | with_reducible rfl | with_reducible assumption | omega) (Int.le_refl _) (by first | with_reducible rfl | with_reducible assumption | omega)) _) hT (pr := []) (pcs := [wdP cs h r g tf ta pf_29 na_29 ma_29 wa_29 cf ca ef ea xf xa]) hw px_X.tt (px_recv hT hw 0 0 rfl rfl rfl) m12_73 m12_70 m12_72 ms_10_3 m1_21 q_Mpg_settle ⟨show 1 + 1 ≤ (8 * lv + 18) from by first | with_reducible rfl | with_reducible assumption | omega, show 8 + (5 + 11) + 60 ≤ (220 * lv + 660) from by first | with_reducible rfl | with_reducible assumption | omega⟩ hl.1 rfl (Nat.le_of_ble_eq_true rfl) d_Mpg_binary_55 ⟨Nat.le_of_ble_eq_true rfl, Nat.le_of_ble_eq_true rfl⟩) hw hA (fun v131 p130 H locs hp130 hw => ?_)
              obtain ⟨pf127, na128, ma129, rfl, e132, e133, e134, e135, e136, e137, e138, e139, e140, e141⟩ := hp130
              have e132 : (pf127 26).toInt = (pf_29 26).toInt - 1 := e132
              have e133 : (pf127 12).toInt = (pf_29 12).toInt - 1 := e133
              have e134 : (pf_29 13).toInt ≤ (pf127 13).toInt := e134
              have e135 : (pf127 13).toInt ≤ (pf_29 13).toInt + 1 := e135
              have e136 : (pf127 11).toInt = (pf_29 11).toInt := e136
              have e137 : (pf127 24).toInt = (pf_29 24).toInt := e137
              have e138 : (pf127 25).toInt = (pf_29 25).toInt := e138
              have e139 : FrB lo na_29 ma_29 na128 ma129 := e139
              have hws := hws.kp e139 (by first | with_reducible rfl | with_reducible assumption | omega) (by first | with_reducible rfl | with_reducible assumption | omega)
              have hfb := hfb.tr e139 (by first | with_reducible rfl | with_reducible assumption | omega)
              have e140 : ExR ta (tf 6).toInt na128 ma129 v131 lo (pf127 13).toInt (Wl + Wr + 1 + X) ((pf_29 12).toInt - 1) := e140
              have ht_v131 := e140
              have hn_ht_v131 := ht_v131.num
              have e141 : FsI (tf 6).toInt (pf127 13).toInt na128 := e141
              have hfs := e141
              obtain ⟨qb1421, qb1422, qb1423, qb1424⟩ := tk_eq (ta := ta) (x := (pf127 11)) (y := (pf_29 11)) (by first | with_reducible rfl | with_reducible assumption | omega)
              have hw : pw D A s.heap H locs [wdP cs h r g tf ta pf127 na128 ma129 wa_29 cf ca ef ea xf xa] := hw
              have lv131 := Int32.le_toInt v131
              have uv131 := Int32.toInt_lt v131
              refine lv_istore_n (lv' := [(2, .int v131), (0, .ref h), (1, .int x29_1), (3, .int x29_3), (4, .int x29_4)]) S.x S.b d_Mpg_binary_58 rfl hl (by decide) rfl (fun ls hl => ?_)
              refine lv_goto (tgt := 29) S.x S.b d_Mpg_binary_59 (by decide) ?_
              exact ih29 pf127 na128 ma129 wa_29 x29_1 v131 x29_3 x29_4 _ _ ls (show (pf127 24).toInt = (pf 24).toInt from by first | exact oz_1687f4cc65 k29_0 e137 | omega) (show (pf127 25).toInt = (pf 25).toInt from by first | exact oz_1687f4cc65 k29_1 e138 | omega) (show x29_1.toInt = (pf 26).toInt from by first | exact k29_2 | omega) (show (pf 26).toInt ≤ (pf127 26).toInt from by first | exact oz_e9107e9c5e k29_2 e132 nc23 | omega) (show (pf127 12).toInt = (pf 12).toInt + (pf127 26).toInt - (pf 26).toInt from by first | exact oz_f0edb74643 k29_4 e132 e133 | omega) (show (pf127 12).toInt ≤ 60 from by first | exact oz_bb3b55ee85 e133 k29_5 | omega) (show (pf 11).toInt + 1 ≤ (pf127 11).toInt from by first | exact oz_ad42535f91 k29_9 e136 k29_2 k29_8 nc23 | omega) (show (pf127 11).toInt < (tf 6).toInt from by first | exact oz_5d2fbac15b k29_7 e136 | omega) (show (pf 13).toInt + 1 ≤ (pf127 13).toInt from by first | exact oz_df9e044d3c k29_8 e134 | omega) (show (pf127 13).toInt - (pf 13).toInt + (pf127 26).toInt - (pf 26).toInt ≤ (pf127 11).toInt - (pf 11).toInt from by first | exact oz_e31acd305d k29_9 e132 e135 e136 | omega) (show bp ta (pf 11) + 1 ≤ bp ta (pf127 11) from by first | with_reducible rfl | with_reducible assumption | omega) (show 0 ≤ x29_3.toInt from by first | exact k29_11 | omega) (show x29_3.toInt ≤ 1 from by first | exact k29_12 | omega) (show FrB (pf 13).toInt na ma na128 ma129 from hfb) (show FrW (pf 26).toInt wa wa_29 from hfw) (show BinV ta (tf 6).toInt na128 ma129 wa_29 (pf 26).toInt (pf 12).toInt ((pf127 26).toInt - (pf 26).toInt) v131 (pf 13).toInt (pf127 13).toInt (3 * (bp ta (pf127 11) - bp ta (pf 11))) from ⟨_, _, _, ws_eq hws (by first | with_reducible rfl | with_reducible assumption | omega), (ExR.le ht_v131 (by first | with_reducible rfl | with_reducible assumption | omega) (by first | with_reducible rfl | with_reducible assumption | omega) (Int.le_refl _) (by first | with_reducible rfl | with_reducible assumption | omega)), by first | with_reducible rfl | with_reducible assumption | omega⟩) (show FsI (tf 6).toInt (pf127 13).toInt na128 from (FsI.le hfs (by first | with_reducible rfl | with_reducible assumption | omega))) (show 1 ≤ x29_4.toInt from by first | exact k29_17 | omega) (show (tf 6).toInt - (pf127 11).toInt < (n_22 : Int) + 1 from by first | exact oz_a79b1a760c k29_18 e136 | omega) (show x29_4.toInt ≤ 10 from by first | exact k29_19 | omega) (show 1 ≤ x29_4.toInt → (pf127 11).toInt + 1 < (tf 6).toInt ∧ so ta (pf127 11) = 5 from by first | with_reducible rfl | with_reducible assumption | omega) (show 1 ≤ x29_4.toInt → x29_4.toInt ≤ 2 → sz ta (pf127 11) = 2 from by first | with_reducible rfl | with_reducible assumption | omega) (show (pf127 26).toInt < (n_29 : Int) from by first | exact oz_5cd8da6a50 hm e132 | omega) hw (lv_sub hl [1, 2, 0, 3, 4] rfl)
      refine lv_iload S.x S.b d_Mpg_binary_22 (lv_at hl 4 rfl) ?_
      refine lv_if_le (tgt := 133) S.x S.b d_Mpg_binary_24 (by decide) (fun c143 => ?_) (fun c143 => ?_)
      · have nc143 : x22_4.toInt ≤ (0 : Int) := (i_le (x := x22_4) (y := 0)).mp c143
        exact J133 (((pf_22 26).toInt).toNat + 1) pf_22 na_22 ma_22 wa_22 x22_1 x22_2 x22_3 _ _ ls (show (pf_22 24).toInt = (pf 24).toInt from by first | exact k22_0 | omega) (show (pf_22 25).toInt = (pf 25).toInt from by first | exact k22_1 | omega) (show x22_1.toInt = (pf 26).toInt from by first | exact k22_2 | omega) (show (pf 26).toInt ≤ (pf_22 26).toInt from by first | exact k22_3 | omega) (show (pf_22 12).toInt = (pf 12).toInt + (pf_22 26).toInt - (pf 26).toInt from by first | exact k22_4 | omega) (show (pf_22 12).toInt ≤ 60 from by first | exact k22_5 | omega) (show (pf 11).toInt + 1 ≤ (pf_22 11).toInt from by first | exact k22_6 | omega) (show (pf_22 11).toInt < (tf 6).toInt from by first | exact k22_7 | omega) (show (pf 13).toInt + 1 ≤ (pf_22 13).toInt from by first | exact k22_8 | omega) (show (pf_22 13).toInt - (pf 13).toInt + (pf_22 26).toInt - (pf 26).toInt ≤ (pf_22 11).toInt - (pf 11).toInt from by first | exact k22_9 | omega) (show bp ta (pf 11) + 1 ≤ bp ta (pf_22 11) from by first | exact k22_10 | omega) (show 0 ≤ x22_3.toInt from by first | exact k22_11 | omega) (show x22_3.toInt ≤ 1 from by first | exact k22_12 | omega) (show FrB (pf 13).toInt na ma na_22 ma_22 from hfb) (show FrW (pf 26).toInt wa wa_22 from hfw) (show BinV ta (tf 6).toInt na_22 ma_22 wa_22 (pf 26).toInt (pf 12).toInt ((pf_22 26).toInt - (pf 26).toInt) x22_2 (pf 13).toInt (pf_22 13).toInt (3 * (bp ta (pf_22 11) - bp ta (pf 11))) from ⟨_, _, _, ws_eq hws (by first | with_reducible rfl | with_reducible assumption | omega), (ExR.le ht_x22_2 (by first | with_reducible rfl | with_reducible assumption | omega) (by first | with_reducible rfl | with_reducible assumption | omega) (Int.le_refl _) (by first | with_reducible rfl | with_reducible assumption | omega)), by first | with_reducible rfl | with_reducible assumption | omega⟩) (show FsI (tf 6).toInt (pf_22 13).toInt na_22 from (FsI.le hfs (by first | with_reducible rfl | with_reducible assumption | omega))) (show (pf_22 26).toInt < (((((pf_22 26).toInt).toNat + 1 : Nat) : Int) : Int) from by first | exact oz_natlt | omega) hw (lv_sub hl [0, 1, 2, 3] rfl)
      · have nc143 : ¬ x22_4.toInt ≤ (0 : Int) := mt (i_le (x := x22_4) (y := 0)).mpr c143
        refine lv_iconst (v := 0) S.x S.b d_Mpg_binary_27 (by decide) ?_
        refine lv_istore_n (lv' := [(3, .int 0), (0, .ref h), (1, .int x22_1), (2, .int x22_2), (4, .int x22_4)]) S.x S.b d_Mpg_binary_28 rfl hl (by decide) rfl (fun ls hl => ?_)
        exact J29 (((pf_22 26).toInt).toNat + 1) pf_22 na_22 ma_22 wa_22 x22_1 x22_2 (0 : Int32) x22_4 _ _ ls (show (pf_22 24).toInt = (pf 24).toInt from by first | exact k22_0 | omega) (show (pf_22 25).toInt = (pf 25).toInt from by first | exact k22_1 | omega) (show x22_1.toInt = (pf 26).toInt from by first | exact k22_2 | omega) (show (pf 26).toInt ≤ (pf_22 26).toInt from by first | exact k22_3 | omega) (show (pf_22 12).toInt = (pf 12).toInt + (pf_22 26).toInt - (pf 26).toInt from by first | exact k22_4 | omega) (show (pf_22 12).toInt ≤ 60 from by first | exact k22_5 | omega) (show (pf 11).toInt + 1 ≤ (pf_22 11).toInt from by first | exact k22_6 | omega) (show (pf_22 11).toInt < (tf 6).toInt from by first | exact k22_7 | omega) (show (pf 13).toInt + 1 ≤ (pf_22 13).toInt from by first | exact k22_8 | omega) (show (pf_22 13).toInt - (pf 13).toInt + (pf_22 26).toInt - (pf 26).toInt ≤ (pf_22 11).toInt - (pf 11).toInt from by first | exact k22_9 | omega) (show bp ta (pf 11) + 1 ≤ bp ta (pf_22 11) from by first | exact k22_10 | omega) (show 0 ≤ (0 : Int) from by first | decide | omega) (show (0 : Int) ≤ 1 from by first | decide | omega) (show FrB (pf 13).toInt na ma na_22 ma_22 from hfb) (show FrW (pf 26).toInt wa wa_22 from hfw) (show BinV ta (tf 6).toInt na_22 ma_22 wa_22 (pf 26).toInt (pf 12).toInt ((pf_22 26).toInt - (pf 26).toInt) x22_2 (pf 13).toInt (pf_22 13).toInt (3 * (bp ta (pf_22 11) - bp ta (pf 11))) from ⟨_, _, _, ws_eq hws (by first | with_reducible rfl | with_reducible assumption | omega), (ExR.le ht_x22_2 (by first | with_reducible rfl | with_reducible assumption | omega) (by first | with_reducible rfl | with_reducible assumption | omega) (Int.le_refl _) (by first | with_reducible rfl | with_reducible assumption | omega)), by first | with_reducible rfl | with_reducible assumption | omega⟩) (show FsI (tf 6).toInt (pf_22 13).toInt na_22 from (FsI.le hfs (by first | with_reducible rfl | with_reducible assumption | omega))) (show 1 ≤ x22_4.toInt from by first | exact oz_622ec16cd8 nc143 | omega) (show (tf 6).toInt - (pf_22 11).toInt < (n_22 : Int) + 1 from by first | exact oz_7d0af0eba3 hm | omega) (show x22_4.toInt ≤ 10 from by first | exact k22_17 | omega) (show 1 ≤ x22_4.toInt → (pf_22 11).toInt + 1 < (tf 6).toInt ∧ so ta (pf_22 11) = 5 from by first | exact k22_18 | omega) (show 1 ≤ x22_4.toInt → x22_4.toInt ≤ 2 → sz ta (pf_22 11) = 2 from by first | exact k22_19 | omega) (show (pf_22 26).toInt < (((((pf_22 26).toInt).toNat + 1 : Nat) : Int) : Int) from by first | exact oz_natlt | omega) hw (lv_sub hl [1, 2, 3, 0, 4] rfl)
  refine lv_aload_n S.x S.b d_Mpg_binary_0 rfl (lv_at hl 0 rfl) ?_
  refine px_get S k_Mpg hT hw 0 0 26 (v := .int (pf 26)) rfl rfl rfl (by decide) m10_14 d_Mpg_binary_1 ?_
  refine lv_istore_n (lv' := [(1, .int (pf 26)), (0, .ref h)]) S.x S.b d_Mpg_binary_4 rfl hl (by decide) rfl (fun ls hl => ?_)
  refine lv_aload_n S.x S.b d_Mpg_binary_5 rfl (lv_at hl 1 rfl) ?_
  refine th_calli (ps0 := [wdP cs h r g tf ta pf na ma wa cf ca ef ea xf xa]) (pr := []) (pcs := [wdP cs h r g tf ta pf na ma wa cf ca ef ea xf xa]) (As := []) (rest := []) (c_mp_unary l D cs h r g tf ta cf ca ef ea xf xa pf na ma wa  lv (show 0 ≤ (pf 11).toInt from by first | exact g0 | omega) (show (pf 11).toInt < (tf 6).toInt from by first | exact g1 | omega) (show (tf 6).toInt ≤ 2049 from by first | exact g2 | omega) (show 0 ≤ (pf 12).toInt from by first | exact g3 | omega) (show (pf 12).toInt ≤ 60 from by first | exact g4 | omega) (show 0 ≤ (pf 13).toInt from by first | exact g5 | omega) (show (pf 13).toInt ≤ (pf 11).toInt + 20 from by first | exact g6 | omega) (show 0 ≤ (pf 26).toInt from by first | exact g7 | omega) (show (pf 26).toInt ≤ (pf 12).toInt from by first | exact g8 | omega) (show 61 ≤ (pf 12).toInt + (lv : Int) from by first | exact g9 | omega) (show lv ≤ 61 from by first | exact g10 | omega) hlf htk (FsI.le (N' := (pf 13).toInt) hfs (by first | with_reducible rfl | with_reducible assumption | omega)) hE) S hT hw (oX_call (P := (fun A U H => (oN A U H) ∧ (oP A g U H))) (pr := []) (oG_and oG_N oG_P) hw hA ⟨hN, hP⟩) (px_recv hT hw 0 0 rfl rfl rfl) m12_22 m12_19 m12_21 ms_9_7 m1_21 q_Mpg_unary ⟨show (8 * lv + 17) + 1 ≤ (8 * lv + 18) from by first | with_reducible rfl | with_reducible assumption | omega, show 8 + (6 + 11) + (220 * lv + 630) ≤ (220 * lv + 660) from by first | with_reducible rfl | with_reducible assumption | omega⟩ hl.1 rfl (Nat.le_of_ble_eq_true rfl) d_Mpg_binary_6 ⟨Nat.le_of_ble_eq_true rfl, Nat.le_of_ble_eq_true rfl⟩ hne hlk hA hAe (fun o t h => Or.inr h) ?_ (fun v153 p152 H locs hp152 hw => ?_)
  · exact fun p1 H1 locs1 hp hw => by obtain ⟨pq1, pq2, pq3, pq4, rfl, hq1, hq2⟩ := hp; exact ⟨_, ⟨pq1, pq2, pq3, pq4, rfl, hq1, hq2⟩, hw⟩
  obtain ⟨pf148, na149, ma150, wa151, rfl, e154, e155, e156, e157, e158, e159, e160, e161, e162, e163, e164, e165, e166⟩ := hp152
  have e154 : (pf 11).toInt + 1 ≤ (pf148 11).toInt := e154
  have e155 : (pf148 11).toInt < (tf 6).toInt := e155
  have e156 : (pf 13).toInt + 1 ≤ (pf148 13).toInt := e156
  have e157 : (pf148 13).toInt - (pf 13).toInt ≤ (pf148 11).toInt - (pf 11).toInt := e157
  have e158 : bp ta (pf 11) + 1 ≤ bp ta (pf148 11) := e158
  have e159 : (pf148 12).toInt = (pf 12).toInt := e159
  have e160 : (pf148 24).toInt = (pf 24).toInt := e160
  have e161 : (pf148 25).toInt = (pf 25).toInt := e161
  have e162 : (pf148 26).toInt = (pf 26).toInt := e162
  have e163 : FrB (pf 13).toInt na ma na149 ma150 := e163
  have hfb := hfb.tr e163 (by first | with_reducible rfl | with_reducible assumption | omega)
  have e164 : FrW (pf 26).toInt wa wa151 := e164
  have hfw := hfw.tr e164 (by first | with_reducible rfl | with_reducible assumption | omega)
  have e165 : ExR ta (tf 6).toInt na149 ma150 v153 (pf 13).toInt (pf148 13).toInt (3 * (bp ta (pf148 11) - bp ta (pf 11))) (pf 12).toInt := e165
  have ht_v153 := e165
  have hn_ht_v153 := ht_v153.num
  have e166 : FsI (tf 6).toInt (pf148 13).toInt na149 := e166
  have hfs := e166
  have hw : pw D A s.heap H locs [wdP cs h r g tf ta pf148 na149 ma150 wa151 cf ca ef ea xf xa] := hw
  have lv153 := Int32.le_toInt v153
  have uv153 := Int32.toInt_lt v153
  refine lv_istore_n (lv' := [(2, .int v153), (1, .int (pf 26)), (0, .ref h)]) S.x S.b d_Mpg_binary_9 rfl hl (by decide) rfl (fun ls hl => ?_)
  have hws : WS ta (tf 6).toInt na149 ma150 wa151 (pf 26).toInt (pf 12).toInt 0 (pf 13).toInt (pf 13).toInt 0 := ⟨Int.le_refl _, Int.le_refl _⟩
  refine lv_iconst (v := 1) S.x S.b d_Mpg_binary_10 (by decide) ?_
  refine lv_istore_n (lv' := [(3, .int 1), (2, .int v153), (1, .int (pf 26)), (0, .ref h)]) S.x S.b d_Mpg_binary_11 rfl hl (by decide) rfl (fun ls hl => ?_)
  refine lv_aload_n S.x S.b d_Mpg_binary_12 rfl (lv_at hl 3 rfl) ?_
  refine lv_aload_n S.x S.b d_Mpg_binary_13 rfl (lv_at hl 3 rfl) ?_
  refine px_get S k_Mpg hT hw 0 0 11 (v := .int (pf148 11)) rfl rfl rfl (by decide) m9_235 d_Mpg_binary_14 ?_
  refine px_calli (pr := []) (px_runV (As := [.int (pf148 11)]) (rest := []) S (c_mp_rank l D cs h r g tf ta pf148 na149 ma150 wa151 cf ca ef ea xf xa (pf148 11)  (show 0 ≤ (pf148 11).toInt from by first | exact oz_06d7f15a5c e154 g0 | omega) (show (pf148 11).toInt < (tf 6).toInt from by first | exact e155 | omega) (show (tf 6).toInt ≤ 2049 from by first | exact g2 | omega) htk _) hT (pr := []) (pcs := [wdP cs h r g tf ta pf148 na149 ma150 wa151 cf ca ef ea xf xa]) hw (oX_call (P := (fun A U H => (oP A g U H))) (pr := []) oG_P hw hA hP) (px_recv hT hw 0 0 rfl rfl rfl) m12_69 m12_66 m12_68 ms_10_2 m1_21 q_Mpg_rank ⟨show 4 + 1 ≤ (8 * lv + 18) from by first | with_reducible rfl | with_reducible assumption | omega, show 8 + (4 + 11) + 160 ≤ (220 * lv + 660) from by first | with_reducible rfl | with_reducible assumption | omega⟩ hl.1 rfl (Nat.le_of_ble_eq_true rfl) d_Mpg_binary_17 ⟨Nat.le_of_ble_eq_true rfl, Nat.le_of_ble_eq_true rfl⟩) hw hA (fun v168 p167 H locs hp167 hw => ?_)
  obtain ⟨rfl, e169, e170, e171, e172⟩ := hp167
  have e169 : 0 ≤ v168.toInt := e169
  have e170 : v168.toInt ≤ 10 := e170
  have e171 : 1 ≤ v168.toInt → (pf148 11).toInt + 1 < (tf 6).toInt ∧ so ta (pf148 11) = 5 := e171
  have e172 : 1 ≤ v168.toInt → v168.toInt ≤ 2 → sz ta (pf148 11) = 2 := e172
  have hw : pw D A s.heap H locs [wdP cs h r g tf ta pf148 na149 ma150 wa151 cf ca ef ea xf xa] := hw
  have lv168 := Int32.le_toInt v168
  have uv168 := Int32.toInt_lt v168
  refine lv_istore (lv' := [(4, .int v168), (3, .int 1), (2, .int v153), (1, .int (pf 26)), (0, .ref h)]) S.x S.b d_Mpg_binary_20 hl (by decide) rfl (fun ls hl => ?_)
  exact J22 (((tf 6).toInt - (pf148 11).toInt).toNat + 1) pf148 na149 ma150 wa151 (pf 26) v153 (1 : Int32) v168 _ _ ls (show (pf148 24).toInt = (pf 24).toInt from by first | exact e160 | omega) (show (pf148 25).toInt = (pf 25).toInt from by first | exact e161 | omega) (show (pf 26).toInt = (pf 26).toInt from rfl) (show (pf 26).toInt ≤ (pf148 26).toInt from by first | exact oz_f9b42d1b56 e162 | omega) (show (pf148 12).toInt = (pf 12).toInt + (pf148 26).toInt - (pf 26).toInt from by first | exact oz_5cc7a415c7 e159 e162 | omega) (show (pf148 12).toInt ≤ 60 from by first | exact oz_a3db38fa3c e159 g4 | omega) (show (pf 11).toInt + 1 ≤ (pf148 11).toInt from by first | exact e154 | omega) (show (pf148 11).toInt < (tf 6).toInt from by first | exact e155 | omega) (show (pf 13).toInt + 1 ≤ (pf148 13).toInt from by first | exact e156 | omega) (show (pf148 13).toInt - (pf 13).toInt + (pf148 26).toInt - (pf 26).toInt ≤ (pf148 11).toInt - (pf 11).toInt from by first | exact oz_aee3b7f825 e157 e162 | omega) (show bp ta (pf 11) + 1 ≤ bp ta (pf148 11) from by first | exact e158 | omega) (show 0 ≤ (1 : Int) from by first | decide | omega) (show (1 : Int) ≤ 1 from by first | decide | omega) (show FrB (pf 13).toInt na ma na149 ma150 from hfb) (show FrW (pf 26).toInt wa wa151 from hfw) (show BinV ta (tf 6).toInt na149 ma150 wa151 (pf 26).toInt (pf 12).toInt ((pf148 26).toInt - (pf 26).toInt) v153 (pf 13).toInt (pf148 13).toInt (3 * (bp ta (pf148 11) - bp ta (pf 11))) from ⟨_, _, _, ws_eq hws (by first | with_reducible rfl | with_reducible assumption | omega), (ExR.le ht_v153 (by first | with_reducible rfl | with_reducible assumption | omega) (by first | with_reducible rfl | with_reducible assumption | omega) (Int.le_refl _) (by first | with_reducible rfl | with_reducible assumption | omega)), by first | with_reducible rfl | with_reducible assumption | omega⟩) (show FsI (tf 6).toInt (pf148 13).toInt na149 from (FsI.le hfs (by first | with_reducible rfl | with_reducible assumption | omega))) (show v168.toInt ≤ 10 from by first | exact e170 | omega) (show 1 ≤ v168.toInt → (pf148 11).toInt + 1 < (tf 6).toInt ∧ so ta (pf148 11) = 5 from by first | exact e171 | omega) (show 1 ≤ v168.toInt → v168.toInt ≤ 2 → sz ta (pf148 11) = 2 from by first | exact e172 | omega) (show (tf 6).toInt - (pf148 11).toInt < (((((tf 6).toInt - (pf148 11).toInt).toNat + 1 : Nat) : Int) : Int) from by first | exact oz_natlt | omega) hw (lv_sub hl [4, 3, 2, 1, 0] rfl)
