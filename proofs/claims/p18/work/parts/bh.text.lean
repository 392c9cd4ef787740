theorem oz_268b73b22f {a0 a1 : Int} (h0 : a0 = a1) (h1 : (200 : Int) < a1) : 0 ≤ a0 := by omega
theorem oz_a3718179ed {a0 a1 : Int} (h0 : a0 = a1) (h1 : a1 ≤ 260) : a0 ≤ 260 := by omega
theorem oz_31d6e22d67 {a0 a1 : Int} (h0 : a0 = a1) (h1 : a1 ≤ 1090) : a0 ≤ 1090 := by omega
theorem oz_b799c596aa {a0 a1 a2 a3 : Int} (h0 : a0 = a2) (h1 : a1 = a3) (h2 : a2 ≤ 4 * a3) : a0 ≤ 4 * a1 := by omega
theorem oz_f53570ab19 {a0 : Int} (h0 : a0 ≤ (8192 : Int)) : a0 ≤ 8192 := by omega
theorem oz_835a9fd040 {a0 : Int} (h0 : ¬ (200 : Int) < a0) : a0 ≤ 200 := by omega
theorem oz_c4b1918348 {a0 a1 : Int} (h0 : a0 = a1) (h1 : ¬ (200 : Int) < a1) : a0 ≤ 260 := by omega
theorem oz_4c8369a87f {a0 a1 : Int} (h0 : a0 = a1) (h1 : ¬ (200 : Int) < a1) : a0 ≤ 200 := by omega
theorem oz_d8df35b42d {a0 a1 a2 a3 : Int} (h0 : a1 = a2) (h1 : a0 = a3 + 1) (h2 : ¬ a2 ≤ a3) : a0 ≤ a1 := by omega
theorem oz_489d83cefd {a0 a1 a3 a4 : Int} {n2 : Nat} (h0 : a3 - a4 < ((n2 + 1 : Nat) : Int)) (h1 : a0 = a3) (h2 : a1 = a4 + 1) : a0 - a1 < (n2 : Int) := by omega
theorem oz_ab7418934e {a0 a1 a2 : Int} (h0 : 6 * a0 + a1 ≤ a2) (h1 : a2 ≤ 6200) (h2 : 0 ≤ a1) : a0 ≤ 1090 := by omega
theorem oz_cbd7d48f1f {a0 a1 : Int} (h0 : a0 = a1) (h1 : 0 ≤ a1) : (0 : Int) ≤ a0 := by omega
theorem oz_a03d3c3de9 {a0 a1 a2 a3 : Int} (h0 : a0 = a1) (h1 : 6 * a1 + a2 ≤ a3) (h2 : a3 ≤ 6200) (h3 : 0 ≤ a2) : a0 ≤ 1090 := by omega
theorem oz_1cdf1afdbd {a0 a1 a2 a3 : Int} (h0 : a0 = a1) (h1 : a1 = a2) (h2 : a3 ≤ a2) (h3 : 0 ≤ a3) : (0 : Int) ≤ a0 := by omega
theorem oz_3678a32be9 {a0 a1 : Int} (h0 : a1 ≤ 4096 * a0) (h1 : 0 ≤ a1) : (0 : Int) ≤ 4 + 4096 * a0 := by omega
theorem oz_fb9374997e {a0 a1 a2 a3 a4 : Int} (h0 : 6 * a4 + a1 ≤ a3) (h1 : 6 * a0 ≤ 6 * a4 + (a2)) : 6 * a0 + (a1 - a2) ≤ a3 := by omega
theorem oz_5608f3e637 {a0 a1 a2 a3 a4 a5 : Int} (h0 : a1 - (0 : Int) ≤ 4096 * (a0 - a2)) (h1 : 0 ≤ a3) (h2 : a3 ≤ 4 * a4) (h3 : a4 ≤ 4096 * a2) (h4 : a3 ≤ a5) (h5 : a5 - a3 ≤ 4 * (a1 - (0 : Int))) : 0 ≤ a0 := by omega
theorem oz_a5717c4bb3 {a0 a1 : Int} (h0 : a0 = a1) (h1 : a1 = -1) : a0 = -1 := by omega
theorem oz_b9606414b9 {a0 a1 a2 a3 a4 a5 : Int} (h0 : a0 - a2 ≤ 4 * (a3 - (0 : Int))) (h1 : a1 = a4 + a3) (h2 : a2 ≤ 4 * a5) (h3 : a4 = a5) : a0 ≤ 4 * a1 := by omega
theorem oz_715b55e286 {a0 a1 a2 a3 a4 a5 : Int} (h0 : a0 = a1 + a2) (h1 : a1 = a3) (h2 : a4 - a5 ≤ 4 * (a2 - (0 : Int))) (h3 : 0 ≤ a5) (h4 : a5 ≤ 4 * a3) (h5 : a5 ≤ a4) : 0 ≤ a0 := by omega
theorem oz_22b25d5c25 {a0 a1 a2 a3 a4 a5 : Int} (h0 : a2 - (0 : Int) ≤ 4096 * (a1 - a3)) (h1 : a0 = a4 + a2) (h2 : a5 ≤ 4096 * a3) (h3 : a4 = a5) : a0 ≤ 4096 * a1 := by omega
theorem oz_b0666eb655 {a0 a1 a2 a3 a4 : Int} (h0 : 6 * a3 + a0 ≤ a2) (h1 : 6 * a4 ≤ 6 * a3 + (a1)) (h2 : 0 ≤ a3) (h3 : a3 ≤ a4) : (a0 - a1) ≤ a2 := by omega
theorem oz_6fee9c7465 {a0 a1 a2 : Int} (h0 : 6 * a0 + a1 ≤ a2) (h1 : a2 ≤ 6200) (h2 : 0 ≤ a1) : 6 * a0 ≤ 6540 := by omega
theorem oz_66631b3390 {a0 a1 a2 a3 a4 a5 a6 : Int} (h0 : 6 * a4 + a1 ≤ a3) (h1 : a0 = a4) (h2 : 6 * a5 ≤ 6 * a6 + (a2)) (h3 : a6 ≤ a5) : 6 * a0 + (a1 - a2) ≤ a3 := by omega
theorem oz_f9300db2d1 {a0 a1 a2 a3 : Int} (h0 : a1 = a2) (h1 : a0 = a3) (h2 : a3 ≤ 4 * a2) : a0 ≤ 4 * a1 := by omega
theorem oz_0778144fd0 {a0 a1 a2 a3 : Int} (h0 : a0 = a2) (h1 : a1 = a3) (h2 : a2 ≤ 4096 * a3) : a0 ≤ 4096 * a1 := by omega
theorem oz_63c5da3e37 {a0 a1 a2 a3 a4 a5 : Int} (h0 : 6 * a3 + a0 ≤ a2) (h1 : 6 * a4 ≤ 6 * a5 + (a1)) (h2 : 0 ≤ a3) (h3 : a5 ≤ a4) : (a0 - a1) ≤ a2 := by omega
theorem oz_e39ac9ea3f {a0 a1 a2 a3 a4 a5 a6 : Int} (h0 : 6 * a4 + a1 ≤ a3) (h1 : a0 = a4) (h2 : 6 * a5 ≤ 6 * a6 + a2) (h3 : a6 ≤ a5) : 6 * a0 + (a1 - a2) ≤ a3 := by omega
theorem oz_09655d0a70 {a0 a1 a2 a3 a4 : Int} (h0 : 6 * a4 + a1 ≤ a3) (h1 : 6 * a0 ≤ 6 * a4 + a2) : 6 * a0 + (a1 - a2) ≤ a3 := by omega
theorem oz_d83d6a23a0 {a0 a1 a2 a3 : Int} (h0 : a0 = a2) (h1 : a3 ≤ a1) (h2 : a2 ≤ 4096 * a3) : a0 ≤ 4096 * a1 := by omega
theorem oz_24514a91eb {a0 a1 a2 a3 a4 : Int} (h0 : 6 * a3 + a0 ≤ a2) (h1 : 6 * a4 ≤ 6 * a3 + a1) (h2 : 0 ≤ a3) (h3 : a3 ≤ a4) : (a0 - a1) ≤ a2 := by omega
theorem oz_f48bf4be2a {a0 : Int}  : 6 * (0 : Int) + a0 ≤ a0 := by omega
theorem oz_adb5b99fec  : (0 : Int) ≤ 1100 := by omega
theorem oz_3754fbd6fc {a0 : Int}  : 24 * (0 : Int) + a0 ≤ a0 := by omega
theorem oz_58caa455ab  : (0 : Int) ≤ 260 := by omega
theorem m10_32 : Cond.fieldLink "HomeSystemModel$Program" 693 "HomeSystemModel$Program" "textWords" "I" ∈ AL := AL_10 (List.mem_of_getElem? (i := 32) rfl) rfl
theorem m13_70 : Cond.methodLink "HomeSystemModel$Program" 702 ⟨"HomeSystemModel$Program", "hasMain", "()Z"⟩ ∈ AL := AL_13 (List.mem_of_getElem? (i := 70) rfl) rfl
theorem m13_73 : Cond.code ⟨"HomeSystemModel$Program", "hasMain", "()Z"⟩ prog_16_method_103_code 4 (Option.some FieldType.boolean) ∈ AL := AL_13 (List.mem_of_getElem? (i := 73) rfl) rfl
theorem ms_13_15 : Cond.selects "HomeSystemModel$Program" ⟨"HomeSystemModel$Program", "hasMain", "()Z"⟩ ⟨"HomeSystemModel$Program", "hasMain", "()Z"⟩ ∈ AL := AL_p (q := (⟨"HomeSystemModel$Program", "hasMain", "()Z"⟩, 69)) (by unfold lw_privs; exact List.mem_append_right _ (List.mem_append_right _ (List.mem_append_right _ (List.mem_append_right _ (List.mem_append_right _ (List.mem_append_right _ (List.mem_append_right _ (List.mem_append_right _ (List.mem_append_right _ (List.mem_append_right _ (List.mem_append_right _ (List.mem_append_right _ (List.mem_append_left _ (List.mem_of_getElem? (i := 15) rfl))))))))))))))
theorem m13_72 : Cond.instanceMethod ⟨"HomeSystemModel$Program", "hasMain", "()Z"⟩ ∈ AL := AL_13 (List.mem_of_getElem? (i := 72) rfl) rfl
theorem m10_51 : Cond.fieldLink "HomeSystemModel$Program" 690 "HomeSystemModel$Program" "textCells" "I" ∈ AL := AL_10 (List.mem_of_getElem? (i := 51) rfl) rfl
theorem m13_66 : Cond.methodLink "HomeSystemModel$Program" 699 ⟨"HomeSystemModel$Program", "checkEnum", "(I)V"⟩ ∈ AL := AL_13 (List.mem_of_getElem? (i := 66) rfl) rfl
theorem m13_69 : Cond.code ⟨"HomeSystemModel$Program", "checkEnum", "(I)V"⟩ prog_16_method_102_code 4 (Option.none : Option Jvm.ClassFile.FieldType) ∈ AL := AL_13 (List.mem_of_getElem? (i := 69) rfl) rfl
theorem ms_13_14 : Cond.selects "HomeSystemModel$Program" ⟨"HomeSystemModel$Program", "checkEnum", "(I)V"⟩ ⟨"HomeSystemModel$Program", "checkEnum", "(I)V"⟩ ∈ AL := AL_p (q := (⟨"HomeSystemModel$Program", "checkEnum", "(I)V"⟩, 69)) (by unfold lw_privs; exact List.mem_append_right _ (List.mem_append_right _ (List.mem_append_right _ (List.mem_append_right _ (List.mem_append_right _ (List.mem_append_right _ (List.mem_append_right _ (List.mem_append_right _ (List.mem_append_right _ (List.mem_append_right _ (List.mem_append_right _ (List.mem_append_right _ (List.mem_append_left _ (List.mem_of_getElem? (i := 14) rfl))))))))))))))
theorem m13_68 : Cond.instanceMethod ⟨"HomeSystemModel$Program", "checkEnum", "(I)V"⟩ ∈ AL := AL_13 (List.mem_of_getElem? (i := 68) rfl) rfl
theorem m12_150 : Cond.methodLink "HomeSystemModel$Program" 696 ⟨"HomeSystemModel$Program", "checkFunction", "(I)V"⟩ ∈ AL := AL_12 (List.mem_of_getElem? (i := 150) rfl) rfl
theorem m12_153 : Cond.code ⟨"HomeSystemModel$Program", "checkFunction", "(I)V"⟩ prog_16_method_97_code 9 (Option.none : Option Jvm.ClassFile.FieldType) ∈ AL := AL_12 (List.mem_of_getElem? (i := 153) rfl) rfl
theorem ms_11_7 : Cond.selects "HomeSystemModel$Program" ⟨"HomeSystemModel$Program", "checkFunction", "(I)V"⟩ ⟨"HomeSystemModel$Program", "checkFunction", "(I)V"⟩ ∈ AL := AL_p (q := (⟨"HomeSystemModel$Program", "checkFunction", "(I)V"⟩, 69)) (by unfold lw_privs; exact List.mem_append_right _ (List.mem_append_right _ (List.mem_append_right _ (List.mem_append_right _ (List.mem_append_right _ (List.mem_append_right _ (List.mem_append_right _ (List.mem_append_right _ (List.mem_append_right _ (List.mem_append_right _ (List.mem_append_left _ (List.mem_of_getElem? (i := 7) rfl))))))))))))
theorem m12_152 : Cond.instanceMethod ⟨"HomeSystemModel$Program", "checkFunction", "(I)V"⟩ ∈ AL := AL_12 (List.mem_of_getElem? (i := 152) rfl) rfl
abbrev b_Mpg_checkText : ByteArray := prog_16_method_104_code
def y_Mpg_checkText : MethodName := ⟨"HomeSystemModel$Program", "checkText", "()V"⟩
theorem d_Mpg_checkText_0 : decode b_Mpg_checkText 0 = .ok (.aload_n 0, 1) := by decide +kernel
theorem d_Mpg_checkText_1 : decode b_Mpg_checkText 1 = .ok (.iconst 0, 1) := by decide +kernel
theorem d_Mpg_checkText_2 : decode b_Mpg_checkText 2 = .ok (.putfield 535, 3) := by decide +kernel
theorem d_Mpg_checkText_5 : decode b_Mpg_checkText 5 = .ok (.aload_n 0, 1) := by decide +kernel
theorem d_Mpg_checkText_6 : decode b_Mpg_checkText 6 = .ok (.getfield 500, 3) := by decide +kernel
theorem d_Mpg_checkText_9 : decode b_Mpg_checkText 9 = .ok (.istore_n 1, 1) := by decide +kernel
theorem d_Mpg_checkText_10 : decode b_Mpg_checkText 10 = .ok (.iload_n 1, 1) := by decide +kernel
theorem d_Mpg_checkText_11 : decode b_Mpg_checkText 11 = .ok (.ifCond .lt 44, 3) := by decide +kernel
theorem d_Mpg_checkText_14 : decode b_Mpg_checkText 14 = .ok (.aload_n 0, 1) := by decide +kernel
theorem d_Mpg_checkText_15 : decode b_Mpg_checkText 15 = .ok (.getfield 207, 3) := by decide +kernel
theorem d_Mpg_checkText_18 : decode b_Mpg_checkText 18 = .ok (.iload_n 1, 1) := by decide +kernel
theorem d_Mpg_checkText_19 : decode b_Mpg_checkText 19 = .ok (.baload, 1) := by decide +kernel
theorem d_Mpg_checkText_20 : decode b_Mpg_checkText 20 = .ok (.bipush 41, 2) := by decide +kernel
theorem d_Mpg_checkText_22 : decode b_Mpg_checkText 22 = .ok (.if_icmp .ne 23, 3) := by decide +kernel
theorem d_Mpg_checkText_25 : decode b_Mpg_checkText 25 = .ok (.aload_n 0, 1) := by decide +kernel
theorem d_Mpg_checkText_26 : decode b_Mpg_checkText 26 = .ok (.getfield 255, 3) := by decide +kernel
theorem d_Mpg_checkText_29 : decode b_Mpg_checkText 29 = .ok (.aload_n 0, 1) := by decide +kernel
theorem d_Mpg_checkText_30 : decode b_Mpg_checkText 30 = .ok (.getfield 535, 3) := by decide +kernel
theorem d_Mpg_checkText_33 : decode b_Mpg_checkText 33 = .ok (.iload_n 1, 1) := by decide +kernel
theorem d_Mpg_checkText_34 : decode b_Mpg_checkText 34 = .ok (.iastore, 1) := by decide +kernel
theorem d_Mpg_checkText_35 : decode b_Mpg_checkText 35 = .ok (.aload_n 0, 1) := by decide +kernel
theorem d_Mpg_checkText_36 : decode b_Mpg_checkText 36 = .ok (.dup, 1) := by decide +kernel
theorem d_Mpg_checkText_37 : decode b_Mpg_checkText 37 = .ok (.getfield 535, 3) := by decide +kernel
theorem d_Mpg_checkText_40 : decode b_Mpg_checkText 40 = .ok (.iconst 1, 1) := by decide +kernel
theorem d_Mpg_checkText_41 : decode b_Mpg_checkText 41 = .ok (.iadd, 1) := by decide +kernel
theorem d_Mpg_checkText_42 : decode b_Mpg_checkText 42 = .ok (.putfield 535, 3) := by decide +kernel
theorem d_Mpg_checkText_45 : decode b_Mpg_checkText 45 = .ok (.aload_n 0, 1) := by decide +kernel
theorem d_Mpg_checkText_46 : decode b_Mpg_checkText 46 = .ok (.getfield 228, 3) := by decide +kernel
theorem d_Mpg_checkText_49 : decode b_Mpg_checkText 49 = .ok (.iload_n 1, 1) := by decide +kernel
theorem d_Mpg_checkText_50 : decode b_Mpg_checkText 50 = .ok (.iaload, 1) := by decide +kernel
theorem d_Mpg_checkText_51 : decode b_Mpg_checkText 51 = .ok (.istore_n 1, 1) := by decide +kernel
theorem d_Mpg_checkText_52 : decode b_Mpg_checkText 52 = .ok (.goto (-42), 3) := by decide +kernel
theorem d_Mpg_checkText_55 : decode b_Mpg_checkText 55 = .ok (.aload_n 0, 1) := by decide +kernel
theorem d_Mpg_checkText_56 : decode b_Mpg_checkText 56 = .ok (.iconst 0, 1) := by decide +kernel
theorem d_Mpg_checkText_57 : decode b_Mpg_checkText 57 = .ok (.putfield 528, 3) := by decide +kernel
theorem d_Mpg_checkText_60 : decode b_Mpg_checkText 60 = .ok (.aload_n 0, 1) := by decide +kernel
theorem d_Mpg_checkText_61 : decode b_Mpg_checkText 61 = .ok (.iconst 0, 1) := by decide +kernel
theorem d_Mpg_checkText_62 : decode b_Mpg_checkText 62 = .ok (.putfield 556, 3) := by decide +kernel
theorem d_Mpg_checkText_65 : decode b_Mpg_checkText 65 = .ok (.aload_n 0, 1) := by decide +kernel
theorem d_Mpg_checkText_66 : decode b_Mpg_checkText 66 = .ok (.iconst 0, 1) := by decide +kernel
theorem d_Mpg_checkText_67 : decode b_Mpg_checkText 67 = .ok (.putfield 667, 3) := by decide +kernel
theorem d_Mpg_checkText_70 : decode b_Mpg_checkText 70 = .ok (.aload_n 0, 1) := by decide +kernel
theorem d_Mpg_checkText_71 : decode b_Mpg_checkText 71 = .ok (.iconst 0, 1) := by decide +kernel
theorem d_Mpg_checkText_72 : decode b_Mpg_checkText 72 = .ok (.putfield 670, 3) := by decide +kernel
theorem d_Mpg_checkText_75 : decode b_Mpg_checkText 75 = .ok (.aload_n 0, 1) := by decide +kernel
theorem d_Mpg_checkText_76 : decode b_Mpg_checkText 76 = .ok (.iconst (-1), 1) := by decide +kernel
theorem d_Mpg_checkText_77 : decode b_Mpg_checkText 77 = .ok (.putfield 550, 3) := by decide +kernel
theorem d_Mpg_checkText_80 : decode b_Mpg_checkText 80 = .ok (.iconst 0, 1) := by decide +kernel
theorem d_Mpg_checkText_81 : decode b_Mpg_checkText 81 = .ok (.istore_n 1, 1) := by decide +kernel
theorem d_Mpg_checkText_82 : decode b_Mpg_checkText 82 = .ok (.aload_n 0, 1) := by decide +kernel
theorem d_Mpg_checkText_83 : decode b_Mpg_checkText 83 = .ok (.iconst 0, 1) := by decide +kernel
theorem d_Mpg_checkText_84 : decode b_Mpg_checkText 84 = .ok (.putfield 547, 3) := by decide +kernel
theorem d_Mpg_checkText_87 : decode b_Mpg_checkText 87 = .ok (.aload_n 0, 1) := by decide +kernel
theorem d_Mpg_checkText_88 : decode b_Mpg_checkText 88 = .ok (.iconst 0, 1) := by decide +kernel
theorem d_Mpg_checkText_89 : decode b_Mpg_checkText 89 = .ok (.putfield 690, 3) := by decide +kernel
theorem d_Mpg_checkText_92 : decode b_Mpg_checkText 92 = .ok (.aload_n 0, 1) := by decide +kernel
theorem d_Mpg_checkText_93 : decode b_Mpg_checkText 93 = .ok (.iconst 0, 1) := by decide +kernel
theorem d_Mpg_checkText_94 : decode b_Mpg_checkText 94 = .ok (.putfield 693, 3) := by decide +kernel
theorem d_Mpg_checkText_97 : decode b_Mpg_checkText 97 = .ok (.aload_n 0, 1) := by decide +kernel
theorem d_Mpg_checkText_98 : decode b_Mpg_checkText 98 = .ok (.getfield 500, 3) := by decide +kernel
theorem d_Mpg_checkText_101 : decode b_Mpg_checkText 101 = .ok (.istore_n 2, 1) := by decide +kernel
theorem d_Mpg_checkText_102 : decode b_Mpg_checkText 102 = .ok (.iload_n 2, 1) := by decide +kernel
theorem d_Mpg_checkText_103 : decode b_Mpg_checkText 103 = .ok (.ifCond .lt 94, 3) := by decide +kernel
theorem d_Mpg_checkText_106 : decode b_Mpg_checkText 106 = .ok (.aload_n 0, 1) := by decide +kernel
theorem d_Mpg_checkText_107 : decode b_Mpg_checkText 107 = .ok (.getfield 207, 3) := by decide +kernel
theorem d_Mpg_checkText_110 : decode b_Mpg_checkText 110 = .ok (.iload_n 2, 1) := by decide +kernel
theorem d_Mpg_checkText_111 : decode b_Mpg_checkText 111 = .ok (.baload, 1) := by decide +kernel
theorem d_Mpg_checkText_112 : decode b_Mpg_checkText 112 = .ok (.bipush 41, 2) := by decide +kernel
theorem d_Mpg_checkText_114 : decode b_Mpg_checkText 114 = .ok (.if_icmp .ne 14, 3) := by decide +kernel
theorem d_Mpg_checkText_117 : decode b_Mpg_checkText 117 = .ok (.aload_n 0, 1) := by decide +kernel
theorem d_Mpg_checkText_118 : decode b_Mpg_checkText 118 = .ok (.iload_n 1, 1) := by decide +kernel
theorem d_Mpg_checkText_119 : decode b_Mpg_checkText 119 = .ok (.invokevirtual 696, 3) := by decide +kernel
theorem d_Mpg_checkText_122 : decode b_Mpg_checkText 122 = .ok (.iinc 1 1, 3) := by decide +kernel
theorem d_Mpg_checkText_125 : decode b_Mpg_checkText 125 = .ok (.goto 62, 3) := by decide +kernel
theorem d_Mpg_checkText_128 : decode b_Mpg_checkText 128 = .ok (.aload_n 0, 1) := by decide +kernel
theorem d_Mpg_checkText_129 : decode b_Mpg_checkText 129 = .ok (.getfield 207, 3) := by decide +kernel
theorem d_Mpg_checkText_132 : decode b_Mpg_checkText 132 = .ok (.iload_n 2, 1) := by decide +kernel
theorem d_Mpg_checkText_133 : decode b_Mpg_checkText 133 = .ok (.baload, 1) := by decide +kernel
theorem d_Mpg_checkText_134 : decode b_Mpg_checkText 134 = .ok (.bipush 43, 2) := by decide +kernel
theorem d_Mpg_checkText_136 : decode b_Mpg_checkText 136 = .ok (.if_icmp .ne 11, 3) := by decide +kernel
theorem d_Mpg_checkText_139 : decode b_Mpg_checkText 139 = .ok (.aload_n 0, 1) := by decide +kernel
theorem d_Mpg_checkText_140 : decode b_Mpg_checkText 140 = .ok (.iload_n 2, 1) := by decide +kernel
theorem d_Mpg_checkText_141 : decode b_Mpg_checkText 141 = .ok (.invokevirtual 699, 3) := by decide +kernel
theorem d_Mpg_checkText_144 : decode b_Mpg_checkText 144 = .ok (.goto 43, 3) := by decide +kernel
theorem d_Mpg_checkText_147 : decode b_Mpg_checkText 147 = .ok (.aload_n 0, 1) := by decide +kernel
theorem d_Mpg_checkText_148 : decode b_Mpg_checkText 148 = .ok (.iconst 0, 1) := by decide +kernel
theorem d_Mpg_checkText_149 : decode b_Mpg_checkText 149 = .ok (.putfield 621, 3) := by decide +kernel
theorem d_Mpg_checkText_152 : decode b_Mpg_checkText 152 = .ok (.aload_n 0, 1) := by decide +kernel
theorem d_Mpg_checkText_153 : decode b_Mpg_checkText 153 = .ok (.aload_n 0, 1) := by decide +kernel
theorem d_Mpg_checkText_154 : decode b_Mpg_checkText 154 = .ok (.getfield 690, 3) := by decide +kernel
theorem d_Mpg_checkText_157 : decode b_Mpg_checkText 157 = .ok (.putfield 553, 3) := by decide +kernel
theorem d_Mpg_checkText_160 : decode b_Mpg_checkText 160 = .ok (.aload_n 0, 1) := by decide +kernel
theorem d_Mpg_checkText_161 : decode b_Mpg_checkText 161 = .ok (.iload_n 2, 1) := by decide +kernel
theorem d_Mpg_checkText_162 : decode b_Mpg_checkText 162 = .ok (.iconst 1, 1) := by decide +kernel
theorem d_Mpg_checkText_163 : decode b_Mpg_checkText 163 = .ok (.invokevirtual 651, 3) := by decide +kernel
theorem d_Mpg_checkText_166 : decode b_Mpg_checkText 166 = .ok (.aload_n 0, 1) := by decide +kernel
theorem d_Mpg_checkText_167 : decode b_Mpg_checkText 167 = .ok (.aload_n 0, 1) := by decide +kernel
theorem d_Mpg_checkText_168 : decode b_Mpg_checkText 168 = .ok (.getfield 553, 3) := by decide +kernel
theorem d_Mpg_checkText_171 : decode b_Mpg_checkText 171 = .ok (.putfield 690, 3) := by decide +kernel
theorem d_Mpg_checkText_174 : decode b_Mpg_checkText 174 = .ok (.aload_n 0, 1) := by decide +kernel
theorem d_Mpg_checkText_175 : decode b_Mpg_checkText 175 = .ok (.aload_n 0, 1) := by decide +kernel
theorem d_Mpg_checkText_176 : decode b_Mpg_checkText 176 = .ok (.getfield 693, 3) := by decide +kernel
theorem d_Mpg_checkText_179 : decode b_Mpg_checkText 179 = .ok (.aload_n 0, 1) := by decide +kernel
theorem d_Mpg_checkText_180 : decode b_Mpg_checkText 180 = .ok (.getfield 621, 3) := by decide +kernel
theorem d_Mpg_checkText_183 : decode b_Mpg_checkText 183 = .ok (.iadd, 1) := by decide +kernel
theorem d_Mpg_checkText_184 : decode b_Mpg_checkText 184 = .ok (.putfield 693, 3) := by decide +kernel
theorem d_Mpg_checkText_187 : decode b_Mpg_checkText 187 = .ok (.aload_n 0, 1) := by decide +kernel
theorem d_Mpg_checkText_188 : decode b_Mpg_checkText 188 = .ok (.getfield 228, 3) := by decide +kernel
theorem d_Mpg_checkText_191 : decode b_Mpg_checkText 191 = .ok (.iload_n 2, 1) := by decide +kernel
theorem d_Mpg_checkText_192 : decode b_Mpg_checkText 192 = .ok (.iaload, 1) := by decide +kernel
theorem d_Mpg_checkText_193 : decode b_Mpg_checkText 193 = .ok (.istore_n 2, 1) := by decide +kernel
theorem d_Mpg_checkText_194 : decode b_Mpg_checkText 194 = .ok (.goto (-92), 3) := by decide +kernel
theorem d_Mpg_checkText_197 : decode b_Mpg_checkText 197 = .ok (.aload_n 0, 1) := by decide +kernel
theorem d_Mpg_checkText_198 : decode b_Mpg_checkText 198 = .ok (.invokevirtual 702, 3) := by decide +kernel
theorem d_Mpg_checkText_201 : decode b_Mpg_checkText 201 = .ok (.ifCond .ne 15, 3) := by decide +kernel
theorem d_Mpg_checkText_204 : decode b_Mpg_checkText 204 = .ok (.aload_n 0, 1) := by decide +kernel
theorem d_Mpg_checkText_205 : decode b_Mpg_checkText 205 = .ok (.bipush 12, 2) := by decide +kernel
theorem d_Mpg_checkText_207 : decode b_Mpg_checkText 207 = .ok (.aload_n 0, 1) := by decide +kernel
theorem d_Mpg_checkText_208 : decode b_Mpg_checkText 208 = .ok (.getfield 304, 3) := by decide +kernel
theorem d_Mpg_checkText_211 : decode b_Mpg_checkText 211 = .ok (.iconst 1, 1) := by decide +kernel
theorem d_Mpg_checkText_212 : decode b_Mpg_checkText 212 = .ok (.isub, 1) := by decide +kernel
theorem d_Mpg_checkText_213 : decode b_Mpg_checkText 213 = .ok (.invokevirtual 565, 3) := by decide +kernel
theorem d_Mpg_checkText_216 : decode b_Mpg_checkText 216 = .ok (.iconst 0, 1) := by decide +kernel
theorem d_Mpg_checkText_217 : decode b_Mpg_checkText 217 = .ok (.istore_n 2, 1) := by decide +kernel
theorem d_Mpg_checkText_218 : decode b_Mpg_checkText 218 = .ok (.iload_n 2, 1) := by decide +kernel
theorem d_Mpg_checkText_219 : decode b_Mpg_checkText 219 = .ok (.aload_n 0, 1) := by decide +kernel
theorem d_Mpg_checkText_220 : decode b_Mpg_checkText 220 = .ok (.getfield 535, 3) := by decide +kernel
theorem d_Mpg_checkText_223 : decode b_Mpg_checkText 223 = .ok (.if_icmp .ge 33, 3) := by decide +kernel
theorem d_Mpg_checkText_226 : decode b_Mpg_checkText 226 = .ok (.aload_n 0, 1) := by decide +kernel
theorem d_Mpg_checkText_227 : decode b_Mpg_checkText 227 = .ok (.getfield 258, 3) := by decide +kernel
theorem d_Mpg_checkText_230 : decode b_Mpg_checkText 230 = .ok (.iload_n 2, 1) := by decide +kernel
theorem d_Mpg_checkText_231 : decode b_Mpg_checkText 231 = .ok (.iaload, 1) := by decide +kernel
theorem d_Mpg_checkText_232 : decode b_Mpg_checkText 232 = .ok (.sipush 8192, 3) := by decide +kernel
theorem d_Mpg_checkText_235 : decode b_Mpg_checkText 235 = .ok (.if_icmp .le 15, 3) := by decide +kernel
theorem d_Mpg_checkText_238 : decode b_Mpg_checkText 238 = .ok (.aload_n 0, 1) := by decide +kernel
theorem d_Mpg_checkText_239 : decode b_Mpg_checkText 239 = .ok (.bipush 13, 2) := by decide +kernel
theorem d_Mpg_checkText_241 : decode b_Mpg_checkText 241 = .ok (.aload_n 0, 1) := by decide +kernel
theorem d_Mpg_checkText_242 : decode b_Mpg_checkText 242 = .ok (.getfield 304, 3) := by decide +kernel
theorem d_Mpg_checkText_245 : decode b_Mpg_checkText 245 = .ok (.iconst 1, 1) := by decide +kernel
theorem d_Mpg_checkText_246 : decode b_Mpg_checkText 246 = .ok (.isub, 1) := by decide +kernel
theorem d_Mpg_checkText_247 : decode b_Mpg_checkText 247 = .ok (.invokevirtual 565, 3) := by decide +kernel
theorem d_Mpg_checkText_250 : decode b_Mpg_checkText 250 = .ok (.iinc 2 1, 3) := by decide +kernel
theorem d_Mpg_checkText_253 : decode b_Mpg_checkText 253 = .ok (.goto (-35), 3) := by decide +kernel
theorem d_Mpg_checkText_256 : decode b_Mpg_checkText 256 = .ok (.aload_n 0, 1) := by decide +kernel
theorem d_Mpg_checkText_257 : decode b_Mpg_checkText 257 = .ok (.getfield 535, 3) := by decide +kernel
theorem d_Mpg_checkText_260 : decode b_Mpg_checkText 260 = .ok (.sipush 200, 3) := by decide +kernel
theorem d_Mpg_checkText_263 : decode b_Mpg_checkText 263 = .ok (.if_icmp .gt 13, 3) := by decide +kernel
theorem d_Mpg_checkText_266 : decode b_Mpg_checkText 266 = .ok (.aload_n 0, 1) := by decide +kernel
theorem d_Mpg_checkText_267 : decode b_Mpg_checkText 267 = .ok (.getfield 693, 3) := by decide +kernel
theorem d_Mpg_checkText_270 : decode b_Mpg_checkText 270 = .ok (.sipush 8192, 3) := by decide +kernel
theorem d_Mpg_checkText_273 : decode b_Mpg_checkText 273 = .ok (.if_icmp .le 15, 3) := by decide +kernel
theorem d_Mpg_checkText_276 : decode b_Mpg_checkText 276 = .ok (.aload_n 0, 1) := by decide +kernel
theorem d_Mpg_checkText_277 : decode b_Mpg_checkText 277 = .ok (.bipush 14, 2) := by decide +kernel
theorem d_Mpg_checkText_279 : decode b_Mpg_checkText 279 = .ok (.aload_n 0, 1) := by decide +kernel
theorem d_Mpg_checkText_280 : decode b_Mpg_checkText 280 = .ok (.getfield 304, 3) := by decide +kernel
theorem d_Mpg_checkText_283 : decode b_Mpg_checkText 283 = .ok (.iconst 1, 1) := by decide +kernel
theorem d_Mpg_checkText_284 : decode b_Mpg_checkText 284 = .ok (.isub, 1) := by decide +kernel
theorem d_Mpg_checkText_285 : decode b_Mpg_checkText 285 = .ok (.invokevirtual 565, 3) := by decide +kernel
theorem d_Mpg_checkText_288 : decode b_Mpg_checkText 288 = .ok (.return_, 1) := by decide +kernel
theorem q_Mpg_checkText : px_y y_Mpg_checkText 0 := by unfold px_y; decide +kernel
set_option maxHeartbeats 4000000 in
set_option maxRecDepth 100000 in
theorem c_mp_checkText (l : Launch) (D : va_G) (cs : Nat → ClassId) (sk : Nat) (st : Nat) (sb : Nat → Int32) (d : Nat) (w : Int) (h : Nat) (r : Nat → Nat) (g : Nat → Nat → Option Nat) (tf : Nat → Int32) (ta : Nat → Nat → Int32) (pf : Nat → Int32) (na : Nat → Nat → Int32) (wa : Nat → Nat → Int32) (ef : Nat → Int32) (ea : Nat → Nat → Int32) (xf : Nat → Int32) (xa : Nat → Nat → Int32) (ma : Nat → Nat → Int32) (cf : Nat → Int32) (ca : Nat → Nat → Int32)  (g0 : 0 ≤ (pf 13).toInt) (g1 : (pf 13).toInt ≤ 2100) (g2 : 1 ≤ (tf 6).toInt) (g3 : (tf 6).toInt ≤ 2049) (g4 : (cf 30).toInt = 0) (g5 : 0 ≤ (cf 46).toInt) (g6 : (cf 46).toInt ≤ 1) (g7 : 0 ≤ (cf 47).toInt) (g8 : (cf 47).toInt ≤ 1) (g9 : w ≤ 6200) (g10 : (d : Int) ≤ 300) (htk : TkI tf ta) (hfs : FsI (tf 6).toInt (pf 13).toInt na) (hwr : WrV cf (tf 6).toInt) (hrc : RvC ta (tf 6).toInt na ma d 0 (pf 13).toInt w (pf 24)) : MetV l y_Mpg_checkText b_Mpg_checkText 3 D cs (6 * d + 40) (260 * d + 1500) (0) (0) [.ref h] [wdP cs h r g tf ta pf na ma wa cf ca ef ea xf xa] (oX (fun A U H => (oP A g U H) ∧ ((vk_R "HomeSystemModel$Program" 688 "main" sk U ∧ oS A sk st 4 sb U H))) [wdP cs h r g tf ta pf na ma wa cf ca ef ea xf xa]) (fun ps => ∃ (ma' : Nat → Nat → Int32) (cf' : Nat → Int32) (ca' : Nat → Nat → Int32), (ps = [wdP cs h r g tf ta pf na ma' wa cf' ca' ef ea xf xa]) ∧ (WrV cf' (tf 6).toInt) ∧ ((cf' 46).toInt = (cf 46).toInt) ∧ ((cf' 47).toInt = (cf 47).toInt) ∧ (0 ≤ (cf' 38).toInt) ∧ ((cf' 38).toInt ≤ 260) ∧ (0 ≤ (cf' 48).toInt) ∧ ((cf' 48).toInt ≤ 1090) ∧ (0 ≤ (cf' 55).toInt) ∧ ((cf' 55).toInt ≤ 4 * (cf' 41).toInt) ∧ ((cf' 30).toInt = 0 → (cf' 41).toInt ≤ 8192) ∧ ((cf' 30).toInt = 0 → (cf' 38).toInt ≤ 200) ∧ (FnT (tf 6).toInt na ca' (cf' 38).toInt) ∧ (FnP na ca' (cf' 38).toInt) ∧ (FqZ na ca' (cf' 38).toInt (pf 24)) ∧ (Ann na ma ma') ∧ (TxS ca' (cf' 48).toInt (cf' 55).toInt) ∧ (ZTx cf' ta ca' na ma ma' (tf 6).toInt (tf 5).toInt (cf' 38).toInt (cf' 48).toInt sb d (pf 13).toInt (pf 24))) := by
  refine px_enter (by decide) (Nat.le_of_ble_eq_true rfl) ?_
  intro p e s m below meth c A ls hAe S hr hlk hnm hA hT hX hw hl
  replace hl : lv_has ls 3 [(0, .ref h)] := hl
  have cstm1 : ((-1) : Int32).toInt = (-1) := rfl
  have cst0 : (0 : Int32).toInt = 0 := rfl
  have cst1 : (1 : Int32).toInt = 1 := rfl
  have cst12 : (12 : Int32).toInt = 12 := rfl
  have cst13 : (13 : Int32).toInt = 13 := rfl
  have cst14 : (14 : Int32).toInt = 14 := rfl
  have cst41 : (41 : Int32).toInt = 41 := rfl
  have cst43 : (43 : Int32).toInt = 43 := rfl
  have cst200 : (200 : Int32).toInt = 200 := rfl
  have cst8192 : (8192 : Int32).toInt = 8192 := rfl
  have hX : (fun A U H => (oP A g U H) ∧ ((vk_R "HomeSystemModel$Program" 688 "main" sk U ∧ oS A sk st 4 sb U H))) A s s.heap := by rw [hAe]; exact hX
  obtain ⟨hP, hMn⟩ := hX
  have hZ := hP.1
  have hF0 := hP.2.1
  have hwr0 := hwr.1
  obtain ⟨ma0, hma0⟩ : ∃ y : Nat → Nat → Int32, y = ma := ⟨_, rfl⟩
  have han : Ann na ma0 ma := (by rw [hma0]; exact Ann.rf)
  have hrc : RvC ta (tf 6).toInt na ma0 d 0 (pf 13).toInt w (pf 24) := (by rw [hma0]; exact hrc)
  have hwp0 := RvE.wp hrc
  have hrc0 := hrc
  have J218 : ∀ (n_218 : Nat) (ma_218 : Nat → Nat → Int32) (cf_218 : Nat → Int32) (ca_218 : Nat → Nat → Int32) (x218_2 : Int32) (H : Heap) (locs : List Loc) (ls : Array Slot), (WrV cf_218 (tf 6).toInt) → ((cf_218 46).toInt = (cf 46).toInt) → ((cf_218 47).toInt = (cf 47).toInt) → (0 ≤ (cf_218 38).toInt) → ((cf_218 38).toInt ≤ 260) → (0 ≤ (cf_218 48).toInt) → ((cf_218 48).toInt ≤ 1090) → (0 ≤ (cf_218 55).toInt) → ((cf_218 55).toInt ≤ 4 * (cf_218 41).toInt) → (0 ≤ (cf_218 41).toInt) → ((cf_218 41).toInt ≤ 4096 * (cf_218 48).toInt) → (0 ≤ x218_2.toInt) → (x218_2.toInt ≤ (cf_218 38).toInt) → (FnT (tf 6).toInt na ca_218 (cf_218 38).toInt) → (FnP na ca_218 (cf_218 38).toInt) → (FqZ na ca_218 (cf_218 38).toInt (pf 24)) → (Ann na ma0 ma_218) → (TxS ca_218 (cf_218 48).toInt (cf_218 55).toInt) → (ZTx cf_218 ta ca_218 na ma0 ma_218 (tf 6).toInt (tf 5).toInt (cf_218 38).toInt (cf_218 48).toInt sb d (pf 13).toInt (pf 24)) → (cf_218 38).toInt - x218_2.toInt < (n_218 : Int) → pw D A s.heap H locs [wdP cs h r g tf ta pf na ma_218 wa cf_218 ca_218 ef ea xf xa] → lv_has ls 3 [(0, .ref h), (2, .int x218_2)] → W p l e { frames := (6 * d + 40), cells := 0, slots := 0, locals := (260 * d + 1500) } s m [.ref h].toArray below meth c H locs 0 0 (MQ below (va_Qv (fun ps => ∃ (ma' : Nat → Nat → Int32) (cf' : Nat → Int32) (ca' : Nat → Nat → Int32), (ps = [wdP cs h r g tf ta pf na ma' wa cf' ca' ef ea xf xa]) ∧ (WrV cf' (tf 6).toInt) ∧ ((cf' 46).toInt = (cf 46).toInt) ∧ ((cf' 47).toInt = (cf 47).toInt) ∧ (0 ≤ (cf' 38).toInt) ∧ ((cf' 38).toInt ≤ 260) ∧ (0 ≤ (cf' 48).toInt) ∧ ((cf' 48).toInt ≤ 1090) ∧ (0 ≤ (cf' 55).toInt) ∧ ((cf' 55).toInt ≤ 4 * (cf' 41).toInt) ∧ ((cf' 30).toInt = 0 → (cf' 41).toInt ≤ 8192) ∧ ((cf' 30).toInt = 0 → (cf' 38).toInt ≤ 200) ∧ (FnT (tf 6).toInt na ca' (cf' 38).toInt) ∧ (FnP na ca' (cf' 38).toInt) ∧ (FqZ na ca' (cf' 38).toInt (pf 24)) ∧ (Ann na ma ma') ∧ (TxS ca' (cf' 48).toInt (cf' 55).toInt) ∧ (ZTx cf' ta ca' na ma ma' (tf 6).toInt (tf 5).toInt (cf' 38).toInt (cf' 48).toInt sb d (pf 13).toInt (pf 24))) (pc_B D (va_A ([wdP cs h r g tf ta pf na ma wa cf ca ef ea xf xa] : List va_W).flatten s.heap.size)) (va_A ([wdP cs h r g tf ta pf na ma wa cf ca ef ea xf xa] : List va_W).flatten s.heap.size)) [.ref h].toArray s 0 0 A) (F0 m 218 ls []) := by
    intro  n_218
    induction n_218 with
    | zero =>
      intro ma_218 cf_218 ca_218 x218_2 H locs ls k218_0 k218_1 k218_2 k218_3 k218_4 k218_5 k218_6 k218_7 k218_8 k218_9 k218_10 k218_11 k218_12 k218_13 k218_14 k218_15 k218_16 k218_17 k218_18 hm hw hl
      have lx218_2 := Int32.le_toInt x218_2
      have ux218_2 := Int32.toInt_lt x218_2
      have hwr := k218_0
      have hw0_k218_0 := hwr.1
      have hft := k218_13
      have hf11 := hft.1
      have hfp := k218_14
      have hfz := k218_15
      have han := k218_16
      have htxs := k218_17
      have hztx := k218_18
      exact absurd hm (by omega)
    | succ n_218 ih218 =>
      intro ma_218 cf_218 ca_218 x218_2 H locs ls k218_0 k218_1 k218_2 k218_3 k218_4 k218_5 k218_6 k218_7 k218_8 k218_9 k218_10 k218_11 k218_12 k218_13 k218_14 k218_15 k218_16 k218_17 k218_18 hm hw hl
      have lx218_2 := Int32.le_toInt x218_2
      have ux218_2 := Int32.toInt_lt x218_2
      have hwr := k218_0
      have hw0_k218_0 := hwr.1
      have hft := k218_13
      have hf11 := hft.1
      have hfp := k218_14
      have hfz := k218_15
      have han := k218_16
      have htxs := k218_17
      have hztx := k218_18
      refine lv_iload_n S.x S.b d_Mpg_checkText_218 rfl (lv_at hl 1 rfl) ?_
      refine lv_aload_n S.x S.b d_Mpg_checkText_219 rfl (lv_at hl 0 rfl) ?_
      refine px_get S k_Mpg hT hw 0 0 38 (v := .int (cf_218 38)) rfl rfl rfl (by decide) m10_27 d_Mpg_checkText_220 ?_
      refine lv_icmp_ge (tgt := 256) S.x S.b d_Mpg_checkText_223 (by decide) (fun c1 => ?_) (fun c1 => ?_)
      · have nc1 : (cf_218 38).toInt ≤ x218_2.toInt := (i_le (x := (cf_218 38)) (y := x218_2)).mp c1
        refine lv_aload_n S.x S.b d_Mpg_checkText_256 rfl (lv_at hl 0 rfl) ?_
        refine px_get S k_Mpg hT hw 0 0 38 (v := .int (cf_218 38)) rfl rfl rfl (by decide) m10_27 d_Mpg_checkText_257 ?_
        refine lv_sipush (v := 200) S.x S.b d_Mpg_checkText_260 (by decide) ?_
        refine lv_icmp_gt (tgt := 276) S.x S.b d_Mpg_checkText_263 (by decide) (fun c2 => ?_) (fun c2 => ?_)
        · have nc2 : (200 : Int) < (cf_218 38).toInt := (i_lt (x := 200) (y := (cf_218 38))).mp c2
          refine lv_aload_n S.x S.b d_Mpg_checkText_276 rfl (lv_at hl 0 rfl) ?_
          refine lv_bipush (v := 14) S.x S.b d_Mpg_checkText_277 (by decide) ?_
          refine lv_aload_n S.x S.b d_Mpg_checkText_279 rfl (lv_at hl 0 rfl) ?_
          refine px_get S k_Mpg hT hw 0 0 6 (v := .int (tf 6)) rfl rfl rfl (by decide) m9_230 d_Mpg_checkText_280 ?_
          refine lv_iconst (v := 1) S.x S.b d_Mpg_checkText_283 (by decide) ?_
          refine lv_isub S.x S.b d_Mpg_checkText_284 ?_
          have lr3 := Int32.le_toInt (tf 6)
          have ur3 := Int32.toInt_lt (tf 6)
          refine lv_topi (fun z4 ez4 => ?_)
          have tz4 : z4.toInt = ((tf 6).toInt - (1 : Int) + 2147483648) % 4294967296 - 2147483648 := by rw [ez4]; exact i_sub (tf 6) 1
          have lz4 := Int32.le_toInt z4
          have uz4 := Int32.toInt_lt z4
          try replace tz4 : z4.toInt = (tf 6).toInt - (1 : Int) := by omega
          refine px_callv (pr := []) (px_runV (As := [.int 14, .int z4]) (rest := []) S (c_mp_bad l D cs h r g tf ta pf na ma_218 wa ca_218 ef ea xf xa cf_218 14 z4  (show 1 ≤ (14 : Int) from by first | decide | omega) (show 0 ≤ z4.toInt from by first | exact oz_7c6df0c705 tz4 g2 | omega) (show z4.toInt < (tf 6).toInt from by first | exact oz_017357d48a tz4 | omega) htk hwr _) hT (pr := []) (pcs := [wdP cs h r g tf ta pf na ma_218 wa cf_218 ca_218 ef ea xf xa]) hw px_X.tt (px_recv hT hw 0 0 rfl rfl rfl) m12_173 m12_170 m12_172 ms_11_12 m1_21 q_Mpg_bad ⟨show 0 + 1 ≤ (6 * d + 40) from by first | with_reducible rfl | with_reducible assumption | omega, show 8 + (3 + 11) + 0 ≤ (260 * d + 1500) from by first | with_reducible rfl | with_reducible assumption | omega⟩ hl.1 rfl (Nat.le_of_ble_eq_true rfl) d_Mpg_checkText_285 ⟨Nat.le_of_ble_eq_true rfl, Nat.le_of_ble_eq_true rfl⟩) hw hA (fun p7 H locs hp7 hw => ?_)
          obtain ⟨cf6, rfl, e9, e10, e11, e12, e13, e14, e15, e16, e17, e18, e19, e20, e21, e22, e23, e24, e25, e26, e27⟩ := hp7
          replace e9 : KpE cf_218 cf6 := e9
          have hkz_e9 := e9.2
          have hztx := Zr.kp hztx e9 id
          replace e10 : WrV cf6 (tf 6).toInt := e10
          have hwr := e10
          have hw0_e10 := hwr.1
          replace e11 : 1 ≤ (cf6 30).toInt := e11
          replace e12 : (cf6 33).toInt = (cf_218 33).toInt := e12
          replace e13 : (cf6 38).toInt = (cf_218 38).toInt := e13
          replace e14 : (cf6 48).toInt = (cf_218 48).toInt := e14
          replace e15 : (cf6 46).toInt = (cf_218 46).toInt := e15
          replace e16 : (cf6 47).toInt = (cf_218 47).toInt := e16
          replace e17 : (cf6 57).toInt = (cf_218 57).toInt := e17
          replace e18 : (cf6 37).toInt = (cf_218 37).toInt := e18
          replace e19 : (cf6 42).toInt = (cf_218 42).toInt := e19
          replace e20 : (cf6 43).toInt = (cf_218 43).toInt := e20
          replace e21 : (cf6 44).toInt = (cf_218 44).toInt := e21
          replace e22 : (cf6 45).toInt = (cf_218 45).toInt := e22
          replace e23 : (cf6 54).toInt = (cf_218 54).toInt := e23
          replace e24 : (cf6 55).toInt = (cf_218 55).toInt := e24
          replace e25 : (cf6 58).toInt = (cf_218 58).toInt := e25
          replace e26 : (cf6 59).toInt = (cf_218 59).toInt := e26
          replace e27 : (cf6 41).toInt = (cf_218 41).toInt := e27
          replace hw : pw D A s.heap H locs [wdP cs h r g tf ta pf na ma_218 wa cf6 ca_218 ef ea xf xa] := hw
          exact px_vret S hr hlk hAe hw (Nat.le_of_ble_eq_true rfl) (Nat.le_of_ble_eq_true rfl) (⟨ma_218, cf6, ca_218, rfl, (show WrV cf6 (tf 6).toInt from hwr), (show (cf6 46).toInt = (cf 46).toInt from by first | exact oz_1687f4cc65 k218_1 e15 | omega), (show (cf6 47).toInt = (cf 47).toInt from by first | exact oz_1687f4cc65 k218_2 e16 | omega), (show 0 ≤ (cf6 38).toInt from by first | exact oz_268b73b22f e13 nc2 | omega), (show (cf6 38).toInt ≤ 260 from by first | exact oz_a3718179ed e13 k218_4 | omega), (show 0 ≤ (cf6 48).toInt from by first | exact oz_f3ebed1ad0 e14 k218_5 | omega), (show (cf6 48).toInt ≤ 1090 from by first | exact oz_31d6e22d67 e14 k218_6 | omega), (show 0 ≤ (cf6 55).toInt from by first | exact oz_f3ebed1ad0 e24 k218_7 | omega), (show (cf6 55).toInt ≤ 4 * (cf6 41).toInt from by first | exact oz_b799c596aa e24 e27 k218_8 | omega), (show (cf6 30).toInt = 0 → (cf6 41).toInt ≤ 8192 from by first | with_reducible rfl | with_reducible assumption | omega), (show (cf6 30).toInt = 0 → (cf6 38).toInt ≤ 200 from by first | with_reducible rfl | with_reducible assumption | omega), (show FnT (tf 6).toInt na ca_218 (cf6 38).toInt from (FnT.eq hft (show _ = (cf6 38).toInt by omega))), (show FnP na ca_218 (cf6 38).toInt from (FnP.eq hfp (by omega))), (show FqZ na ca_218 (cf6 38).toInt (pf 24) from (FqZ.eq hfz (by omega))), (show Ann na ma ma_218 from (by rw [← hma0]; exact han)), (show TxS ca_218 (cf6 48).toInt (cf6 55).toInt from (TxS.eq htxs (by omega) (by omega))), (show ZTx cf6 ta ca_218 na ma ma_218 (tf 6).toInt (tf 5).toInt (cf6 38).toInt (cf6 48).toInt sb d (pf 13).toInt (pf 24) from (by rw [← hma0]; exact (fun zz => TxR_eq (hztx (by have q8 : (cf6 30).toInt = 0 := zz; omega)) (by omega) (by omega))))⟩) d_Mpg_checkText_288
        · have nc2 : ¬ (200 : Int) < (cf_218 38).toInt := mt (i_lt (x := 200) (y := (cf_218 38))).mpr c2
          refine lv_aload_n S.x S.b d_Mpg_checkText_266 rfl (lv_at hl 0 rfl) ?_
          refine px_get S k_Mpg hT hw 0 0 41 (v := .int (cf_218 41)) rfl rfl rfl (by decide) m10_32 d_Mpg_checkText_267 ?_
          refine lv_sipush (v := 8192) S.x S.b d_Mpg_checkText_270 (by decide) ?_
          refine lv_icmp_le (tgt := 288) S.x S.b d_Mpg_checkText_273 (by decide) (fun c28 => ?_) (fun c28 => ?_)
          · have nc28 : (cf_218 41).toInt ≤ (8192 : Int) := (i_le (x := (cf_218 41)) (y := 8192)).mp c28
            exact px_vret S hr hlk hAe hw (Nat.le_of_ble_eq_true rfl) (Nat.le_of_ble_eq_true rfl) (⟨ma_218, cf_218, ca_218, rfl, (show WrV cf_218 (tf 6).toInt from hwr), (show (cf_218 46).toInt = (cf 46).toInt from by first | exact k218_1 | omega), (show (cf_218 47).toInt = (cf 47).toInt from by first | exact k218_2 | omega), (show 0 ≤ (cf_218 38).toInt from by first | exact k218_3 | omega), (show (cf_218 38).toInt ≤ 260 from by first | exact k218_4 | omega), (show 0 ≤ (cf_218 48).toInt from by first | exact k218_5 | omega), (show (cf_218 48).toInt ≤ 1090 from by first | exact k218_6 | omega), (show 0 ≤ (cf_218 55).toInt from by first | exact k218_7 | omega), (show (cf_218 55).toInt ≤ 4 * (cf_218 41).toInt from by first | exact k218_8 | omega), (show (cf_218 30).toInt = 0 → (cf_218 41).toInt ≤ 8192 from by first | exact fun q9 => oz_f53570ab19 nc28 | omega), (show (cf_218 30).toInt = 0 → (cf_218 38).toInt ≤ 200 from by first | exact fun q9 => oz_835a9fd040 nc2 | omega), (show FnT (tf 6).toInt na ca_218 (cf_218 38).toInt from (FnT.eq hft (show _ = (cf_218 38).toInt by omega))), (show FnP na ca_218 (cf_218 38).toInt from (FnP.eq hfp (by omega))), (show FqZ na ca_218 (cf_218 38).toInt (pf 24) from (FqZ.eq hfz (by omega))), (show Ann na ma ma_218 from (by rw [← hma0]; exact han)), (show TxS ca_218 (cf_218 48).toInt (cf_218 55).toInt from (TxS.eq htxs (by omega) (by omega))), (show ZTx cf_218 ta ca_218 na ma ma_218 (tf 6).toInt (tf 5).toInt (cf_218 38).toInt (cf_218 48).toInt sb d (pf 13).toInt (pf 24) from (by rw [← hma0]; exact (fun zz => TxR_eq (hztx (by have q8 : (cf_218 30).toInt = 0 := zz; omega)) (by omega) (by omega))))⟩) d_Mpg_checkText_288
          · have nc28 : ¬ (cf_218 41).toInt ≤ (8192 : Int) := mt (i_le (x := (cf_218 41)) (y := 8192)).mpr c28
            refine lv_aload_n S.x S.b d_Mpg_checkText_276 rfl (lv_at hl 0 rfl) ?_
            refine lv_bipush (v := 14) S.x S.b d_Mpg_checkText_277 (by decide) ?_
            refine lv_aload_n S.x S.b d_Mpg_checkText_279 rfl (lv_at hl 0 rfl) ?_
            refine px_get S k_Mpg hT hw 0 0 6 (v := .int (tf 6)) rfl rfl rfl (by decide) m9_230 d_Mpg_checkText_280 ?_
            refine lv_iconst (v := 1) S.x S.b d_Mpg_checkText_283 (by decide) ?_
            refine lv_isub S.x S.b d_Mpg_checkText_284 ?_
            have lr29 := Int32.le_toInt (tf 6)
            have ur29 := Int32.toInt_lt (tf 6)
            refine lv_topi (fun z30 ez30 => ?_)
            have tz30 : z30.toInt = ((tf 6).toInt - (1 : Int) + 2147483648) % 4294967296 - 2147483648 := by rw [ez30]; exact i_sub (tf 6) 1
            have lz30 := Int32.le_toInt z30
            have uz30 := Int32.toInt_lt z30
            try replace tz30 : z30.toInt = (tf 6).toInt - (1 : Int) := by omega
            refine px_callv (pr := []) (px_runV (As := [.int 14, .int z30]) (rest := []) S (c_mp_bad l D cs h r g tf ta pf na ma_218 wa ca_218 ef ea xf xa cf_218 14 z30  (show 1 ≤ (14 : Int) from by first | decide | omega) (show 0 ≤ z30.toInt from by first | exact oz_7c6df0c705 tz30 g2 | omega) (show z30.toInt < (tf 6).toInt from by first | exact oz_017357d48a tz30 | omega) htk hwr _) hT (pr := []) (pcs := [wdP cs h r g tf ta pf na ma_218 wa cf_218 ca_218 ef ea xf xa]) hw px_X.tt (px_recv hT hw 0 0 rfl rfl rfl) m12_173 m12_170 m12_172 ms_11_12 m1_21 q_Mpg_bad ⟨show 0 + 1 ≤ (6 * d + 40) from by first | with_reducible rfl | with_reducible assumption | omega, show 8 + (3 + 11) + 0 ≤ (260 * d + 1500) from by first | with_reducible rfl | with_reducible assumption | omega⟩ hl.1 rfl (Nat.le_of_ble_eq_true rfl) d_Mpg_checkText_285 ⟨Nat.le_of_ble_eq_true rfl, Nat.le_of_ble_eq_true rfl⟩) hw hA (fun p33 H locs hp33 hw => ?_)
            obtain ⟨cf32, rfl, e35, e36, e37, e38, e39, e40, e41, e42, e43, e44, e45, e46, e47, e48, e49, e50, e51, e52, e53⟩ := hp33
            replace e35 : KpE cf_218 cf32 := e35
            have hkz_e35 := e35.2
            have hztx := Zr.kp hztx e35 id
            replace e36 : WrV cf32 (tf 6).toInt := e36
            have hwr := e36
            have hw0_e36 := hwr.1
            replace e37 : 1 ≤ (cf32 30).toInt := e37
            replace e38 : (cf32 33).toInt = (cf_218 33).toInt := e38
            replace e39 : (cf32 38).toInt = (cf_218 38).toInt := e39
            replace e40 : (cf32 48).toInt = (cf_218 48).toInt := e40
            replace e41 : (cf32 46).toInt = (cf_218 46).toInt := e41
            replace e42 : (cf32 47).toInt = (cf_218 47).toInt := e42
            replace e43 : (cf32 57).toInt = (cf_218 57).toInt := e43
            replace e44 : (cf32 37).toInt = (cf_218 37).toInt := e44
            replace e45 : (cf32 42).toInt = (cf_218 42).toInt := e45
            replace e46 : (cf32 43).toInt = (cf_218 43).toInt := e46
            replace e47 : (cf32 44).toInt = (cf_218 44).toInt := e47
            replace e48 : (cf32 45).toInt = (cf_218 45).toInt := e48
            replace e49 : (cf32 54).toInt = (cf_218 54).toInt := e49
            replace e50 : (cf32 55).toInt = (cf_218 55).toInt := e50
            replace e51 : (cf32 58).toInt = (cf_218 58).toInt := e51
            replace e52 : (cf32 59).toInt = (cf_218 59).toInt := e52
            replace e53 : (cf32 41).toInt = (cf_218 41).toInt := e53
            replace hw : pw D A s.heap H locs [wdP cs h r g tf ta pf na ma_218 wa cf32 ca_218 ef ea xf xa] := hw
            exact px_vret S hr hlk hAe hw (Nat.le_of_ble_eq_true rfl) (Nat.le_of_ble_eq_true rfl) (⟨ma_218, cf32, ca_218, rfl, (show WrV cf32 (tf 6).toInt from hwr), (show (cf32 46).toInt = (cf 46).toInt from by first | exact oz_1687f4cc65 k218_1 e41 | omega), (show (cf32 47).toInt = (cf 47).toInt from by first | exact oz_1687f4cc65 k218_2 e42 | omega), (show 0 ≤ (cf32 38).toInt from by first | exact oz_f3ebed1ad0 e39 k218_3 | omega), (show (cf32 38).toInt ≤ 260 from by first | exact oz_c4b1918348 e39 nc2 | omega), (show 0 ≤ (cf32 48).toInt from by first | exact oz_f3ebed1ad0 e40 k218_5 | omega), (show (cf32 48).toInt ≤ 1090 from by first | exact oz_31d6e22d67 e40 k218_6 | omega), (show 0 ≤ (cf32 55).toInt from by first | exact oz_f3ebed1ad0 e50 k218_7 | omega), (show (cf32 55).toInt ≤ 4 * (cf32 41).toInt from by first | exact oz_b799c596aa e50 e53 k218_8 | omega), (show (cf32 30).toInt = 0 → (cf32 41).toInt ≤ 8192 from by first | with_reducible rfl | with_reducible assumption | omega), (show (cf32 30).toInt = 0 → (cf32 38).toInt ≤ 200 from by first | exact fun q9 => oz_4c8369a87f e39 nc2 | omega), (show FnT (tf 6).toInt na ca_218 (cf32 38).toInt from (FnT.eq hft (show _ = (cf32 38).toInt by omega))), (show FnP na ca_218 (cf32 38).toInt from (FnP.eq hfp (by omega))), (show FqZ na ca_218 (cf32 38).toInt (pf 24) from (FqZ.eq hfz (by omega))), (show Ann na ma ma_218 from (by rw [← hma0]; exact han)), (show TxS ca_218 (cf32 48).toInt (cf32 55).toInt from (TxS.eq htxs (by omega) (by omega))), (show ZTx cf32 ta ca_218 na ma ma_218 (tf 6).toInt (tf 5).toInt (cf32 38).toInt (cf32 48).toInt sb d (pf 13).toInt (pf 24) from (by rw [← hma0]; exact (fun zz => TxR_eq (hztx (by have q8 : (cf32 30).toInt = 0 := zz; omega)) (by omega) (by omega))))⟩) d_Mpg_checkText_288
      · have nc1 : ¬ (cf_218 38).toInt ≤ x218_2.toInt := mt (i_le (x := (cf_218 38)) (y := x218_2)).mpr c1
        refine lv_aload_n S.x S.b d_Mpg_checkText_226 rfl (lv_at hl 0 rfl) ?_
        refine px_get S k_Mpg hT hw 0 0 40 (v := .ref (r 40)) rfl rfl rfl (by decide) m10_30 d_Mpg_checkText_227 ?_
        refine lv_iload_n S.x S.b d_Mpg_checkText_230 rfl (lv_at hl 1 rfl) ?_
        refine px_iald S hT hw 0 27 (n := 260) (f := (ca_218 40)) rfl gp_40 (x := x218_2) (vp_in_iff.mpr (by first | exact oz_873c269565 k218_11 nc1 k218_4 | (constructor <;> omega))) d_Mpg_checkText_231 ?_
        refine lv_topi (fun z54 ez54 => ?_)
        have lz54 := Int32.le_toInt z54
        have uz54 := Int32.toInt_lt z54
        refine lv_sipush (v := 8192) S.x S.b d_Mpg_checkText_232 (by decide) ?_
        refine lv_icmp_le (tgt := 250) S.x S.b d_Mpg_checkText_235 (by decide) (fun c55 => ?_) (fun c55 => ?_)
        · have nc55 : z54.toInt ≤ (8192 : Int) := (i_le (x := z54) (y := 8192)).mp c55
          obtain ⟨z56, ez56⟩ : ∃ y : Int32, y = x218_2 + 1 := ⟨_, rfl⟩
          have tz56 : z56.toInt = (x218_2.toInt + 1 + 2147483648) % 4294967296 - 2147483648 := by rw [ez56]; exact i_add x218_2 1
          have lz56 := Int32.le_toInt z56
          have uz56 := Int32.toInt_lt z56
          try replace tz56 : z56.toInt = x218_2.toInt + 1 := by omega
          refine lv_iinc (v := z56) (lv' := [(2, .int z56), (0, .ref h)]) S.x S.b d_Mpg_checkText_250 hl (k := 1) rfl (by rw [ez56]; rfl) (by decide) rfl (fun ls hl => ?_)
          refine lv_goto (tgt := 218) S.x S.b d_Mpg_checkText_253 (by decide) ?_
          exact ih218 ma_218 cf_218 ca_218 z56 _ _ ls (show WrV cf_218 (tf 6).toInt from hwr) (show (cf_218 46).toInt = (cf 46).toInt from by first | exact k218_1 | omega) (show (cf_218 47).toInt = (cf 47).toInt from by first | exact k218_2 | omega) (show 0 ≤ (cf_218 38).toInt from by first | exact k218_3 | omega) (show (cf_218 38).toInt ≤ 260 from by first | exact k218_4 | omega) (show 0 ≤ (cf_218 48).toInt from by first | exact k218_5 | omega) (show (cf_218 48).toInt ≤ 1090 from by first | exact k218_6 | omega) (show 0 ≤ (cf_218 55).toInt from by first | exact k218_7 | omega) (show (cf_218 55).toInt ≤ 4 * (cf_218 41).toInt from by first | exact k218_8 | omega) (show 0 ≤ (cf_218 41).toInt from by first | exact k218_9 | omega) (show (cf_218 41).toInt ≤ 4096 * (cf_218 48).toInt from by first | exact k218_10 | omega) (show 0 ≤ z56.toInt from by first | exact oz_ae613611c0 tz56 k218_11 | omega) (show z56.toInt ≤ (cf_218 38).toInt from by first | exact oz_b1314744c8 nc1 tz56 | omega) (show FnT (tf 6).toInt na ca_218 (cf_218 38).toInt from (FnT.eq hft (show _ = (cf_218 38).toInt by omega))) (show FnP na ca_218 (cf_218 38).toInt from (FnP.eq hfp (by omega))) (show FqZ na ca_218 (cf_218 38).toInt (pf 24) from (FqZ.eq hfz (by omega))) (show Ann na ma0 ma_218 from han) (show TxS ca_218 (cf_218 48).toInt (cf_218 55).toInt from (TxS.eq htxs (by omega) (by omega))) (show ZTx cf_218 ta ca_218 na ma0 ma_218 (tf 6).toInt (tf 5).toInt (cf_218 38).toInt (cf_218 48).toInt sb d (pf 13).toInt (pf 24) from (fun zz => TxR_eq (hztx (by have q8 : (cf_218 30).toInt = 0 := zz; omega)) (by omega) (by omega))) (show (cf_218 38).toInt - z56.toInt < (n_218 : Int) from by first | exact oz_654393c63a hm tz56 | omega) hw (lv_sub hl [1, 0] rfl)
        · have nc55 : ¬ z54.toInt ≤ (8192 : Int) := mt (i_le (x := z54) (y := 8192)).mpr c55
          refine lv_aload_n S.x S.b d_Mpg_checkText_238 rfl (lv_at hl 0 rfl) ?_
          refine lv_bipush (v := 13) S.x S.b d_Mpg_checkText_239 (by decide) ?_
          refine lv_aload_n S.x S.b d_Mpg_checkText_241 rfl (lv_at hl 0 rfl) ?_
          refine px_get S k_Mpg hT hw 0 0 6 (v := .int (tf 6)) rfl rfl rfl (by decide) m9_230 d_Mpg_checkText_242 ?_
          refine lv_iconst (v := 1) S.x S.b d_Mpg_checkText_245 (by decide) ?_
          refine lv_isub S.x S.b d_Mpg_checkText_246 ?_
          have lr57 := Int32.le_toInt (tf 6)
          have ur57 := Int32.toInt_lt (tf 6)
          refine lv_topi (fun z58 ez58 => ?_)
          have tz58 : z58.toInt = ((tf 6).toInt - (1 : Int) + 2147483648) % 4294967296 - 2147483648 := by rw [ez58]; exact i_sub (tf 6) 1
          have lz58 := Int32.le_toInt z58
          have uz58 := Int32.toInt_lt z58
          try replace tz58 : z58.toInt = (tf 6).toInt - (1 : Int) := by omega
          refine px_callv (pr := []) (px_runV (As := [.int 13, .int z58]) (rest := []) S (c_mp_bad l D cs h r g tf ta pf na ma_218 wa ca_218 ef ea xf xa cf_218 13 z58  (show 1 ≤ (13 : Int) from by first | decide | omega) (show 0 ≤ z58.toInt from by first | exact oz_7c6df0c705 tz58 g2 | omega) (show z58.toInt < (tf 6).toInt from by first | exact oz_017357d48a tz58 | omega) htk hwr _) hT (pr := []) (pcs := [wdP cs h r g tf ta pf na ma_218 wa cf_218 ca_218 ef ea xf xa]) hw px_X.tt (px_recv hT hw 0 0 rfl rfl rfl) m12_173 m12_170 m12_172 ms_11_12 m1_21 q_Mpg_bad ⟨show 0 + 1 ≤ (6 * d + 40) from by first | with_reducible rfl | with_reducible assumption | omega, show 8 + (3 + 11) + 0 ≤ (260 * d + 1500) from by first | with_reducible rfl | with_reducible assumption | omega⟩ hl.1 rfl (Nat.le_of_ble_eq_true rfl) d_Mpg_checkText_247 ⟨Nat.le_of_ble_eq_true rfl, Nat.le_of_ble_eq_true rfl⟩) hw hA (fun p61 H locs hp61 hw => ?_)
          obtain ⟨cf60, rfl, e63, e64, e65, e66, e67, e68, e69, e70, e71, e72, e73, e74, e75, e76, e77, e78, e79, e80, e81⟩ := hp61
          replace e63 : KpE cf_218 cf60 := e63
          have hkz_e63 := e63.2
          have hztx := Zr.kp hztx e63 id
          replace e64 : WrV cf60 (tf 6).toInt := e64
          have hwr := e64
          have hw0_e64 := hwr.1
          replace e65 : 1 ≤ (cf60 30).toInt := e65
          replace e66 : (cf60 33).toInt = (cf_218 33).toInt := e66
          replace e67 : (cf60 38).toInt = (cf_218 38).toInt := e67
          replace e68 : (cf60 48).toInt = (cf_218 48).toInt := e68
          replace e69 : (cf60 46).toInt = (cf_218 46).toInt := e69
          replace e70 : (cf60 47).toInt = (cf_218 47).toInt := e70
          replace e71 : (cf60 57).toInt = (cf_218 57).toInt := e71
          replace e72 : (cf60 37).toInt = (cf_218 37).toInt := e72
          replace e73 : (cf60 42).toInt = (cf_218 42).toInt := e73
          replace e74 : (cf60 43).toInt = (cf_218 43).toInt := e74
          replace e75 : (cf60 44).toInt = (cf_218 44).toInt := e75
          replace e76 : (cf60 45).toInt = (cf_218 45).toInt := e76
          replace e77 : (cf60 54).toInt = (cf_218 54).toInt := e77
          replace e78 : (cf60 55).toInt = (cf_218 55).toInt := e78
          replace e79 : (cf60 58).toInt = (cf_218 58).toInt := e79
          replace e80 : (cf60 59).toInt = (cf_218 59).toInt := e80
          replace e81 : (cf60 41).toInt = (cf_218 41).toInt := e81
          replace hw : pw D A s.heap H locs [wdP cs h r g tf ta pf na ma_218 wa cf60 ca_218 ef ea xf xa] := hw
          obtain ⟨z82, ez82⟩ : ∃ y : Int32, y = x218_2 + 1 := ⟨_, rfl⟩
          have tz82 : z82.toInt = (x218_2.toInt + 1 + 2147483648) % 4294967296 - 2147483648 := by rw [ez82]; exact i_add x218_2 1
          have lz82 := Int32.le_toInt z82
          have uz82 := Int32.toInt_lt z82
          try replace tz82 : z82.toInt = x218_2.toInt + 1 := by omega
          refine lv_iinc (v := z82) (lv' := [(2, .int z82), (0, .ref h)]) S.x S.b d_Mpg_checkText_250 hl (k := 1) rfl (by rw [ez82]; rfl) (by decide) rfl (fun ls hl => ?_)
          refine lv_goto (tgt := 218) S.x S.b d_Mpg_checkText_253 (by decide) ?_
          exact ih218 ma_218 cf60 ca_218 z82 _ _ ls (show WrV cf60 (tf 6).toInt from hwr) (show (cf60 46).toInt = (cf 46).toInt from by first | exact oz_1687f4cc65 k218_1 e69 | omega) (show (cf60 47).toInt = (cf 47).toInt from by first | exact oz_1687f4cc65 k218_2 e70 | omega) (show 0 ≤ (cf60 38).toInt from by first | exact oz_f3ebed1ad0 e67 k218_3 | omega) (show (cf60 38).toInt ≤ 260 from by first | exact oz_a3718179ed e67 k218_4 | omega) (show 0 ≤ (cf60 48).toInt from by first | exact oz_f3ebed1ad0 e68 k218_5 | omega) (show (cf60 48).toInt ≤ 1090 from by first | exact oz_31d6e22d67 e68 k218_6 | omega) (show 0 ≤ (cf60 55).toInt from by first | exact oz_f3ebed1ad0 e78 k218_7 | omega) (show (cf60 55).toInt ≤ 4 * (cf60 41).toInt from by first | exact oz_b799c596aa e78 e81 k218_8 | omega) (show 0 ≤ (cf60 41).toInt from by first | exact oz_f3ebed1ad0 e81 k218_9 | omega) (show (cf60 41).toInt ≤ 4096 * (cf60 48).toInt from by first | exact oz_964e82b9f4 e68 e81 k218_10 | omega) (show 0 ≤ z82.toInt from by first | exact oz_ae613611c0 tz82 k218_11 | omega) (show z82.toInt ≤ (cf60 38).toInt from by first | exact oz_d8df35b42d e67 tz82 nc1 | omega) (show FnT (tf 6).toInt na ca_218 (cf60 38).toInt from (FnT.eq hft (show _ = (cf60 38).toInt by omega))) (show FnP na ca_218 (cf60 38).toInt from (FnP.eq hfp (by omega))) (show FqZ na ca_218 (cf60 38).toInt (pf 24) from (FqZ.eq hfz (by omega))) (show Ann na ma0 ma_218 from han) (show TxS ca_218 (cf60 48).toInt (cf60 55).toInt from (TxS.eq htxs (by omega) (by omega))) (show ZTx cf60 ta ca_218 na ma0 ma_218 (tf 6).toInt (tf 5).toInt (cf60 38).toInt (cf60 48).toInt sb d (pf 13).toInt (pf 24) from (fun zz => TxR_eq (hztx (by have q8 : (cf60 30).toInt = 0 := zz; omega)) (by omega) (by omega))) (show (cf60 38).toInt - z82.toInt < (n_218 : Int) from by first | exact oz_489d83cefd hm e67 tz82 | omega) hw (lv_sub hl [1, 0] rfl)
  have J102 : ∀ (n_102 : Nat) (ma_102 : Nat → Nat → Int32) (cf_102 : Nat → Int32) (ca_102 : Nat → Nat → Int32) (mid_102 : Int) (wr_102 : Int) (nf_102 : Int) (x102_1 x102_2 : Int32) (H : Heap) (locs : List Loc) (ls : Array Slot), (WrV cf_102 (tf 6).toInt) → ((cf_102 46).toInt = (cf 46).toInt) → ((cf_102 47).toInt = (cf 47).toInt) → ((cf_102 38).toInt = nf_102) → (0 ≤ nf_102) → (nf_102 ≤ 260) → (0 ≤ (cf_102 33).toInt) → (6 * (cf_102 33).toInt + wr_102 ≤ w) → (0 ≤ (cf_102 48).toInt) → (6 * (cf_102 48).toInt + wr_102 ≤ w) → ((cf_102 37).toInt = 0) → ((cf_102 44).toInt = 0) → ((cf_102 45).toInt = 0) → ((cf_102 43).toInt = -1) → (0 ≤ x102_1.toInt) → (x102_1.toInt ≤ nf_102) → (0 ≤ (cf_102 55).toInt) → ((cf_102 55).toInt ≤ 4 * (cf_102 41).toInt) → (0 ≤ (cf_102 41).toInt) → ((cf_102 55).toInt ≤ 4096 * (cf_102 48).toInt) → ((cf_102 41).toInt ≤ 4096 * (cf_102 48).toInt) → (0 ≤ mid_102) → (mid_102 ≤ (pf 13).toInt) → (0 ≤ wr_102) → (wr_102 ≤ w) → (KnT (tf 6).toInt ca_102 (cf_102 33).toInt) → (KnS ca_102 (cf_102 33).toInt (cf_102 48).toInt 5000) → (FnT (tf 6).toInt na ca_102 (cf_102 38).toInt) → (FnP na ca_102 nf_102) → (FqE na ca_102 nf_102 x102_2 x102_1.toInt) → (FqZ na ca_102 nf_102 (pf 24)) → (Ann na ma0 ma_102) → (TxS ca_102 (cf_102 48).toInt (cf_102 55).toInt) → (RvC ta (tf 6).toInt na ma0 d mid_102 (pf 13).toInt wr_102 x102_2) → (ZFa cf_102 ta ca_102 na ma0 ma_102 (tf 6).toInt nf_102 (cf_102 48).toInt d mid_102 x102_1.toInt) → (ZPc cf_102 ta ca_102 na ma0 ma_102 nf_102 (cf_102 48).toInt mid_102 (pf 24) x102_2) → (pf 13).toInt - mid_102 < (n_102 : Int) → pw D A s.heap H locs [wdP cs h r g tf ta pf na ma_102 wa cf_102 ca_102 ef ea xf xa] → lv_has ls 3 [(0, .ref h), (1, .int x102_1), (2, .int x102_2)] → W p l e { frames := (6 * d + 40), cells := 0, slots := 0, locals := (260 * d + 1500) } s m [.ref h].toArray below meth c H locs 0 0 (MQ below (va_Qv (fun ps => ∃ (ma' : Nat → Nat → Int32) (cf' : Nat → Int32) (ca' : Nat → Nat → Int32), (ps = [wdP cs h r g tf ta pf na ma' wa cf' ca' ef ea xf xa]) ∧ (WrV cf' (tf 6).toInt) ∧ ((cf' 46).toInt = (cf 46).toInt) ∧ ((cf' 47).toInt = (cf 47).toInt) ∧ (0 ≤ (cf' 38).toInt) ∧ ((cf' 38).toInt ≤ 260) ∧ (0 ≤ (cf' 48).toInt) ∧ ((cf' 48).toInt ≤ 1090) ∧ (0 ≤ (cf' 55).toInt) ∧ ((cf' 55).toInt ≤ 4 * (cf' 41).toInt) ∧ ((cf' 30).toInt = 0 → (cf' 41).toInt ≤ 8192) ∧ ((cf' 30).toInt = 0 → (cf' 38).toInt ≤ 200) ∧ (FnT (tf 6).toInt na ca' (cf' 38).toInt) ∧ (FnP na ca' (cf' 38).toInt) ∧ (FqZ na ca' (cf' 38).toInt (pf 24)) ∧ (Ann na ma ma') ∧ (TxS ca' (cf' 48).toInt (cf' 55).toInt) ∧ (ZTx cf' ta ca' na ma ma' (tf 6).toInt (tf 5).toInt (cf' 38).toInt (cf' 48).toInt sb d (pf 13).toInt (pf 24))) (pc_B D (va_A ([wdP cs h r g tf ta pf na ma wa cf ca ef ea xf xa] : List va_W).flatten s.heap.size)) (va_A ([wdP cs h r g tf ta pf na ma wa cf ca ef ea xf xa] : List va_W).flatten s.heap.size)) [.ref h].toArray s 0 0 A) (F0 m 102 ls []) := by
    intro  n_102
    induction n_102 with
    | zero =>
      intro ma_102 cf_102 ca_102 mid_102 wr_102 nf_102 x102_1 x102_2 H locs ls k102_0 k102_1 k102_2 k102_3 k102_4 k102_5 k102_6 k102_7 k102_8 k102_9 k102_10 k102_11 k102_12 k102_13 k102_14 k102_15 k102_16 k102_17 k102_18 k102_19 k102_20 k102_21 k102_22 k102_23 k102_24 k102_25 k102_26 k102_27 k102_28 k102_29 k102_30 k102_31 k102_32 k102_33 k102_34 k102_35 hm hw hl
      have lx102_1 := Int32.le_toInt x102_1
      have ux102_1 := Int32.toInt_lt x102_1
      have lx102_2 := Int32.le_toInt x102_2
      have ux102_2 := Int32.toInt_lt x102_2
      have hwr := k102_0
      have hw0_k102_0 := hwr.1
      have hkt := k102_25
      have hk11_k102_25 := hkt.1
      have hks9 := k102_26
      have hft := k102_27
      have hf11 := hft.1
      have hfp := k102_28
      have hfq := k102_29
      have hfz := k102_30
      have han := k102_31
      have htxs := k102_32
      have hrc := k102_33
      have hzfa := k102_34
      have hzpc := k102_35
      exact absurd hm (by omega)
    | succ n_102 ih102 =>
      intro ma_102 cf_102 ca_102 mid_102 wr_102 nf_102 x102_1 x102_2 H locs ls k102_0 k102_1 k102_2 k102_3 k102_4 k102_5 k102_6 k102_7 k102_8 k102_9 k102_10 k102_11 k102_12 k102_13 k102_14 k102_15 k102_16 k102_17 k102_18 k102_19 k102_20 k102_21 k102_22 k102_23 k102_24 k102_25 k102_26 k102_27 k102_28 k102_29 k102_30 k102_31 k102_32 k102_33 k102_34 k102_35 hm hw hl
      have lx102_1 := Int32.le_toInt x102_1
      have ux102_1 := Int32.toInt_lt x102_1
      have lx102_2 := Int32.le_toInt x102_2
      have ux102_2 := Int32.toInt_lt x102_2
      have hwr := k102_0
      have hw0_k102_0 := hwr.1
      have hkt := k102_25
      have hk11_k102_25 := hkt.1
      have hks9 := k102_26
      have hft := k102_27
      have hf11 := hft.1
      have hfp := k102_28
      have hfq := k102_29
      have hfz := k102_30
      have han := k102_31
      have htxs := k102_32
      have hrc := k102_33
      have hzfa := k102_34
      have hzpc := k102_35
      refine lv_iload_n S.x S.b d_Mpg_checkText_102 rfl (lv_at hl 2 rfl) ?_
      refine lv_if_lt (tgt := 197) S.x S.b d_Mpg_checkText_103 (by decide) (fun c83 => ?_) (fun c83 => ?_)
      · have nc83 : x102_2.toInt < (0 : Int) := (i_lt (x := x102_2) (y := 0)).mp c83
        refine lv_aload_n S.x S.b d_Mpg_checkText_197 rfl (lv_at hl 0 rfl) ?_
        refine px_calli (pr := []) (px_runV (As := []) (rest := []) S (c_mp_hasMain l D cs sk st sb h r g tf ta pf na ma_102 wa cf_102 ca_102 ef ea xf xa   (show 0 ≤ (cf_102 38).toInt from by first | exact oz_f3ebed1ad0 k102_3 k102_4 | omega) (show (tf 6).toInt ≤ 2049 from by first | exact g3 | omega) htk (FnT.eq hft (by omega)) (FnP.eq hfp (show _ = (cf_102 38).toInt by omega)) _) hT (pr := []) (pcs := [wdP cs h r g tf ta pf na ma_102 wa cf_102 ca_102 ef ea xf xa]) hw (oX_call (P := (fun A U H => (oP A g U H) ∧ ((vk_R "HomeSystemModel$Program" 688 "main" sk U ∧ oS A sk st 4 sb U H)))) (pr := []) (oG_and oG_P (oG_and oG_L oG_S)) hw hA ⟨hP, hMn⟩) (px_recv hT hw 0 0 rfl rfl rfl) m13_73 m13_70 m13_72 ms_13_15 m1_21 q_Mpg_hasMain ⟨show 7 + 1 ≤ (6 * d + 40) from by first | with_reducible rfl | with_reducible assumption | omega, show 8 + (4 + 11) + 260 ≤ (260 * d + 1500) from by first | with_reducible rfl | with_reducible assumption | omega⟩ hl.1 rfl (Nat.le_of_ble_eq_true rfl) d_Mpg_checkText_198 ⟨Nat.le_of_ble_eq_true rfl, Nat.le_of_ble_eq_true rfl⟩) hw hA (fun v85 p84 H locs hp84 hw => ?_)
        obtain ⟨rfl, e86, e87⟩ := hp84
        have e86 := z_rng e86
        replace e87 : HmV ta na ma_102 ca_102 (tf 5).toInt sb (cf_102 38).toInt v85.toInt := e87
        have hhm := e87
        replace hw : pw D A s.heap H locs [wdP cs h r g tf ta pf na ma_102 wa cf_102 ca_102 ef ea xf xa] := hw
        have lv85 := Int32.le_toInt v85
        have uv85 := Int32.toInt_lt v85
        refine lv_if_ne (tgt := 216) S.x S.b d_Mpg_checkText_201 (by decide) (fun c88 => ?_) (fun c88 => ?_)
        · have nc88 : ¬ v85.toInt = (0 : Int) := mt (i_eq (x := v85) (y := 0)).mpr c88
          refine lv_iconst (v := 0) S.x S.b d_Mpg_checkText_216 (by decide) ?_
          refine lv_istore_n (lv' := [(2, .int 0), (0, .ref h), (1, .int x102_1)]) S.x S.b d_Mpg_checkText_217 rfl hl (by decide) rfl (fun ls hl => ?_)
          exact J218 (((cf_102 38).toInt - (0 : Int)).toNat + 1) ma_102 cf_102 ca_102 (0 : Int32) _ _ ls (show WrV cf_102 (tf 6).toInt from hwr) (show (cf_102 46).toInt = (cf 46).toInt from by first | exact k102_1 | omega) (show (cf_102 47).toInt = (cf 47).toInt from by first | exact k102_2 | omega) (show 0 ≤ (cf_102 38).toInt from by first | exact oz_f3ebed1ad0 k102_3 k102_4 | omega) (show (cf_102 38).toInt ≤ 260 from by first | exact hf11 | omega) (show 0 ≤ (cf_102 48).toInt from by first | exact k102_8 | omega) (show (cf_102 48).toInt ≤ 1090 from by first | exact oz_ab7418934e k102_9 g9 k102_23 | omega) (show 0 ≤ (cf_102 55).toInt from by first | exact k102_16 | omega) (show (cf_102 55).toInt ≤ 4 * (cf_102 41).toInt from by first | exact k102_17 | omega) (show 0 ≤ (cf_102 41).toInt from by first | exact k102_18 | omega) (show (cf_102 41).toInt ≤ 4096 * (cf_102 48).toInt from by first | exact k102_20 | omega) (show 0 ≤ (0 : Int) from by first | decide | omega) (show (0 : Int) ≤ (cf_102 38).toInt from by first | exact oz_cbd7d48f1f k102_3 k102_4 | omega) (show FnT (tf 6).toInt na ca_102 (cf_102 38).toInt from (FnT.eq hft (show _ = (cf_102 38).toInt by omega))) (show FnP na ca_102 (cf_102 38).toInt from (FnP.eq hfp (by omega))) (show FqZ na ca_102 (cf_102 38).toInt (pf 24) from (FqZ.eq hfz (by omega))) (show Ann na ma0 ma_102 from han) (show TxS ca_102 (cf_102 48).toInt (cf_102 55).toInt from (TxS.eq htxs (by omega) (by omega))) (show ZTx cf_102 ta ca_102 na ma0 ma_102 (tf 6).toInt (tf 5).toInt (cf_102 38).toInt (cf_102 48).toInt sb d (pf 13).toInt (pf 24) from (fun zz => tx_mk (hzfa (by have q8 : (cf_102 30).toInt = 0 := zz; omega)) (hzpc (by have q8 : (cf_102 30).toInt = 0 := zz; omega)) hhm (by omega) (FqE.fin hfq (by omega)) (by omega) (by omega) (by omega) (by omega))) (show (cf_102 38).toInt - (0 : Int) < (((((cf_102 38).toInt - (0 : Int)).toNat + 1 : Nat) : Int) : Int) from by first | exact oz_natlt | omega) hw (lv_sub hl [1, 0] rfl)
        · have nc88 : v85.toInt = (0 : Int) := (i_eq (x := v85) (y := 0)).mp c88
          refine lv_aload_n S.x S.b d_Mpg_checkText_204 rfl (lv_at hl 0 rfl) ?_
          refine lv_bipush (v := 12) S.x S.b d_Mpg_checkText_205 (by decide) ?_
          refine lv_aload_n S.x S.b d_Mpg_checkText_207 rfl (lv_at hl 0 rfl) ?_
          refine px_get S k_Mpg hT hw 0 0 6 (v := .int (tf 6)) rfl rfl rfl (by decide) m9_230 d_Mpg_checkText_208 ?_
          refine lv_iconst (v := 1) S.x S.b d_Mpg_checkText_211 (by decide) ?_
          refine lv_isub S.x S.b d_Mpg_checkText_212 ?_
          have lr89 := Int32.le_toInt (tf 6)
          have ur89 := Int32.toInt_lt (tf 6)
          refine lv_topi (fun z90 ez90 => ?_)
          have tz90 : z90.toInt = ((tf 6).toInt - (1 : Int) + 2147483648) % 4294967296 - 2147483648 := by rw [ez90]; exact i_sub (tf 6) 1
          have lz90 := Int32.le_toInt z90
          have uz90 := Int32.toInt_lt z90
          try replace tz90 : z90.toInt = (tf 6).toInt - (1 : Int) := by omega
          refine px_callv (pr := []) (px_runV (As := [.int 12, .int z90]) (rest := []) S (c_mp_bad l D cs h r g tf ta pf na ma_102 wa ca_102 ef ea xf xa cf_102 12 z90  (show 1 ≤ (12 : Int) from by first | decide | omega) (show 0 ≤ z90.toInt from by first | exact oz_7c6df0c705 tz90 g2 | omega) (show z90.toInt < (tf 6).toInt from by first | exact oz_017357d48a tz90 | omega) htk hwr _) hT (pr := []) (pcs := [wdP cs h r g tf ta pf na ma_102 wa cf_102 ca_102 ef ea xf xa]) hw px_X.tt (px_recv hT hw 0 0 rfl rfl rfl) m12_173 m12_170 m12_172 ms_11_12 m1_21 q_Mpg_bad ⟨show 0 + 1 ≤ (6 * d + 40) from by first | with_reducible rfl | with_reducible assumption | omega, show 8 + (3 + 11) + 0 ≤ (260 * d + 1500) from by first | with_reducible rfl | with_reducible assumption | omega⟩ hl.1 rfl (Nat.le_of_ble_eq_true rfl) d_Mpg_checkText_213 ⟨Nat.le_of_ble_eq_true rfl, Nat.le_of_ble_eq_true rfl⟩) hw hA (fun p93 H locs hp93 hw => ?_)
          obtain ⟨cf92, rfl, e95, e96, e97, e98, e99, e100, e101, e102, e103, e104, e105, e106, e107, e108, e109, e110, e111, e112, e113⟩ := hp93
          replace e95 : KpE cf_102 cf92 := e95
          have hkz_e95 := e95.2
          replace e96 : WrV cf92 (tf 6).toInt := e96
          have hwr := e96
          have hw0_e96 := hwr.1
          replace e97 : 1 ≤ (cf92 30).toInt := e97
          replace e98 : (cf92 33).toInt = (cf_102 33).toInt := e98
          replace e99 : (cf92 38).toInt = (cf_102 38).toInt := e99
          replace e100 : (cf92 48).toInt = (cf_102 48).toInt := e100
          replace e101 : (cf92 46).toInt = (cf_102 46).toInt := e101
          replace e102 : (cf92 47).toInt = (cf_102 47).toInt := e102
          replace e103 : (cf92 57).toInt = (cf_102 57).toInt := e103
          replace e104 : (cf92 37).toInt = (cf_102 37).toInt := e104
          replace e105 : (cf92 42).toInt = (cf_102 42).toInt := e105
          replace e106 : (cf92 43).toInt = (cf_102 43).toInt := e106
          replace e107 : (cf92 44).toInt = (cf_102 44).toInt := e107
          replace e108 : (cf92 45).toInt = (cf_102 45).toInt := e108
          replace e109 : (cf92 54).toInt = (cf_102 54).toInt := e109
          replace e110 : (cf92 55).toInt = (cf_102 55).toInt := e110
          replace e111 : (cf92 58).toInt = (cf_102 58).toInt := e111
          replace e112 : (cf92 59).toInt = (cf_102 59).toInt := e112
          replace e113 : (cf92 41).toInt = (cf_102 41).toInt := e113
          replace hw : pw D A s.heap H locs [wdP cs h r g tf ta pf na ma_102 wa cf92 ca_102 ef ea xf xa] := hw
          refine lv_iconst (v := 0) S.x S.b d_Mpg_checkText_216 (by decide) ?_
          refine lv_istore_n (lv' := [(2, .int 0), (0, .ref h), (1, .int x102_1)]) S.x S.b d_Mpg_checkText_217 rfl hl (by decide) rfl (fun ls hl => ?_)
          exact J218 (((cf92 38).toInt - (0 : Int)).toNat + 1) ma_102 cf92 ca_102 (0 : Int32) _ _ ls (show WrV cf92 (tf 6).toInt from hwr) (show (cf92 46).toInt = (cf 46).toInt from by first | exact oz_1687f4cc65 k102_1 e101 | omega) (show (cf92 47).toInt = (cf 47).toInt from by first | exact oz_1687f4cc65 k102_2 e102 | omega) (show 0 ≤ (cf92 38).toInt from by first | exact oz_9bcc310e9c e99 k102_3 k102_15 k102_14 | omega) (show (cf92 38).toInt ≤ 260 from by first | exact oz_a3718179ed e99 hf11 | omega) (show 0 ≤ (cf92 48).toInt from by first | exact oz_f3ebed1ad0 e100 k102_8 | omega) (show (cf92 48).toInt ≤ 1090 from by first | exact oz_a03d3c3de9 e100 k102_9 g9 k102_23 | omega) (show 0 ≤ (cf92 55).toInt from by first | exact oz_f3ebed1ad0 e110 k102_16 | omega) (show (cf92 55).toInt ≤ 4 * (cf92 41).toInt from by first | exact oz_b799c596aa e110 e113 k102_17 | omega) (show 0 ≤ (cf92 41).toInt from by first | exact oz_f3ebed1ad0 e113 k102_18 | omega) (show (cf92 41).toInt ≤ 4096 * (cf92 48).toInt from by first | exact oz_964e82b9f4 e100 e113 k102_20 | omega) (show 0 ≤ (0 : Int) from by first | decide | omega) (show (0 : Int) ≤ (cf92 38).toInt from by first | exact oz_1cdf1afdbd e99 k102_3 k102_15 k102_14 | omega) (show FnT (tf 6).toInt na ca_102 (cf92 38).toInt from (FnT.eq hft (show _ = (cf92 38).toInt by omega))) (show FnP na ca_102 (cf92 38).toInt from (FnP.eq hfp (by omega))) (show FqZ na ca_102 (cf92 38).toInt (pf 24) from (FqZ.eq hfz (by omega))) (show Ann na ma0 ma_102 from han) (show TxS ca_102 (cf92 48).toInt (cf92 55).toInt from (TxS.eq htxs (by omega) (by omega))) (show ZTx cf92 ta ca_102 na ma0 ma_102 (tf 6).toInt (tf 5).toInt (cf92 38).toInt (cf92 48).toInt sb d (pf 13).toInt (pf 24) from (zr_no (by omega))) (show (cf92 38).toInt - (0 : Int) < (((((cf92 38).toInt - (0 : Int)).toNat + 1 : Nat) : Int) : Int) from by first | exact oz_natlt | omega) hw (lv_sub hl [1, 0] rfl)
      · have nc83 : ¬ x102_2.toInt < (0 : Int) := mt (i_lt (x := x102_2) (y := 0)).mpr c83
        refine lv_aload_n S.x S.b d_Mpg_checkText_106 rfl (lv_at hl 0 rfl) ?_
        obtain ⟨md114, wv115, hm1_md114, hm2_md114, hm3_md114, hpc, hx3_md114, hrc2⟩ := RvE.step hrc (by omega); have hpr := PcV.rng hpc; have hpk := PcV.kind hpc; have hwp2 := RvE.wp hrc2; have hfg0 := FqE.go (n := x102_1) hfq (by omega) rfl
        refine px_get S k_Mpg hT hw 0 0 14 (v := .ref (r 14)) rfl rfl rfl (by decide) m9_238 d_Mpg_checkText_107 ?_
        refine lv_iload_n S.x S.b d_Mpg_checkText_110 rfl (lv_at hl 2 rfl) ?_
        refine px_bald S hT hw 0 10 (n := 2100) (f := (na 14)) rfl gp_14 (x := x102_2) (vp_in_iff.mpr (by constructor <;> omega)) d_Mpg_checkText_111 ?_
        refine lv_topi (fun z116 ez116 => ?_)
        have lz116 := Int32.le_toInt z116
        have uz116 := Int32.toInt_lt z116
        have rz116 : z116.toInt = (na 14 x102_2.toNatClampNeg).toInt := (by rw [ez116])
        refine lv_bipush (v := 41) S.x S.b d_Mpg_checkText_112 (by decide) ?_
        refine lv_icmp_ne (tgt := 128) S.x S.b d_Mpg_checkText_114 (by decide) (fun c117 => ?_) (fun c117 => ?_)
        · have nc117 : ¬ z116.toInt = (41 : Int) := mt (i_eq (x := z116) (y := 41)).mpr c117
          refine lv_aload_n S.x S.b d_Mpg_checkText_128 rfl (lv_at hl 0 rfl) ?_
          refine px_get S k_Mpg hT hw 0 0 14 (v := .ref (r 14)) rfl rfl rfl (by decide) m9_238 d_Mpg_checkText_129 ?_
          refine lv_iload_n S.x S.b d_Mpg_checkText_132 rfl (lv_at hl 2 rfl) ?_
          refine px_bald S hT hw 0 10 (n := 2100) (f := (na 14)) rfl gp_14 (x := x102_2) (vp_in_iff.mpr (by constructor <;> omega)) d_Mpg_checkText_133 ?_
          refine lv_topi (fun z118 ez118 => ?_)
          have lz118 := Int32.le_toInt z118
          have uz118 := Int32.toInt_lt z118
          have rz118 : z118.toInt = (na 14 x102_2.toNatClampNeg).toInt := (by rw [ez118])
          refine lv_bipush (v := 43) S.x S.b d_Mpg_checkText_134 (by decide) ?_
          refine lv_icmp_ne (tgt := 147) S.x S.b d_Mpg_checkText_136 (by decide) (fun c119 => ?_) (fun c119 => ?_)
          · have nc119 : ¬ z118.toInt = (43 : Int) := mt (i_eq (x := z118) (y := 43)).mpr c119
            refine lv_aload_n S.x S.b d_Mpg_checkText_147 rfl (lv_at hl 0 rfl) ?_
            refine lv_iconst (v := 0) S.x S.b d_Mpg_checkText_148 (by decide) ?_
            refine px_put S k_Mpg hT hw 0 0 42 rfl rfl (by decide) m10_33 rfl rfl rfl (Nat.le_of_ble_eq_true rfl) d_Mpg_checkText_149 (w' := wdP cs h r g tf ta pf na ma_102 wa (upd cf_102 42 0) ca_102 ef ea xf xa) (ps' := [wdP cs h r g tf ta pf na ma_102 wa (upd cf_102 42 0) ca_102 ef ea xf xa]) rfl rfl (fun H locs hw => ?_)
            refine lv_aload_n S.x S.b d_Mpg_checkText_152 rfl (lv_at hl 0 rfl) ?_
            refine lv_aload_n S.x S.b d_Mpg_checkText_153 rfl (lv_at hl 0 rfl) ?_
            refine px_get S k_Mpg hT hw 0 0 55 (v := .int (cf_102 55)) rfl rfl rfl (by decide) m10_51 d_Mpg_checkText_154 ?_
            refine px_put S k_Mpg hT hw 0 0 54 rfl rfl (by decide) m10_49 rfl rfl rfl (Nat.le_of_ble_eq_true rfl) d_Mpg_checkText_157 (w' := wdP cs h r g tf ta pf na ma_102 wa (upd (upd cf_102 42 0) 54 (cf_102 55)) ca_102 ef ea xf xa) (ps' := [wdP cs h r g tf ta pf na ma_102 wa (upd (upd cf_102 42 0) 54 (cf_102 55)) ca_102 ef ea xf xa]) rfl rfl (fun H locs hw => ?_)
            refine lv_aload_n S.x S.b d_Mpg_checkText_160 rfl (lv_at hl 0 rfl) ?_
            refine lv_iload_n S.x S.b d_Mpg_checkText_161 rfl (lv_at hl 2 rfl) ?_
            have hdes := PcV.de hpc (by omega); have hrvd := (ScV.s23 hdes (by omega) rfl).2; have hfg1 := hfg0.2 (by omega)
            refine lv_iconst (v := 1) S.x S.b d_Mpg_checkText_162 (by decide) ?_
            refine px_callv (pr := []) (px_runV (As := [.int x102_2, .int 1]) (rest := []) S (c_mp_declare l D cs ma0 (cf_102 48).toInt nf_102 1 d mid_102 md114 wv115 6 h r g tf ta pf na wa ef ea xf xa ma_102 (upd (upd cf_102 42 0) 54 (cf_102 55)) ca_102 x102_2 1  (show 0 ≤ mid_102 from by first | exact k102_21 | omega) (show md114 ≤ (pf 13).toInt from by first | with_reducible rfl | with_reducible assumption | omega) (show (pf 13).toInt ≤ 2100 from by first | exact g1 | omega) (show (tf 6).toInt ≤ 2049 from by first | exact g3 | omega) (show 0 ≤ (cf_102 33).toInt from by first | exact k102_6 | omega) (show 0 ≤ wv115 from by first | exact hm3_md114 | omega) (show 6 * (cf_102 33).toInt + wv115 ≤ 6540 from by first | with_reducible rfl | with_reducible assumption | omega) (show 0 ≤ (cf_102 48).toInt from by first | exact k102_8 | omega) (show 6 * (cf_102 48).toInt + wv115 ≤ 6540 from by first | with_reducible rfl | with_reducible assumption | omega) (show (cf_102 38).toInt = nf_102 from by first | exact k102_3 | omega) (show 0 ≤ nf_102 from by first | exact k102_4 | omega) (show 0 ≤ (cf_102 37).toInt from by first | exact oz_b1de7dbe7e k102_10 | omega) (show 0 ≤ (cf_102 55).toInt from by first | exact k102_16 | omega) (show (cf_102 55).toInt ≤ 4096 * (cf_102 48).toInt from by first | exact k102_19 | omega) (show 0 ≤ (0 : Int) from by first | decide | omega) (show (0 : Int) ≤ 4 + 4096 * (cf_102 48).toInt from by first | exact oz_3678a32be9 k102_20 k102_18 | omega) (show 0 ≤ (cf_102 44).toInt from by first | exact oz_b1de7dbe7e k102_11 | omega) (show 0 ≤ (cf_102 45).toInt from by first | exact oz_b1de7dbe7e k102_12 | omega) (show (cf_102 48).toInt ≤ (cf_102 48).toInt ∨ 1 = 1 from by first | with_reducible rfl | with_reducible assumption | omega) (show 0 ≤ (cf_102 46).toInt from by first | exact oz_f3ebed1ad0 k102_1 g5 | omega) (show (cf_102 46).toInt ≤ 1 from by first | exact oz_878017becc k102_1 g6 | omega) (show 0 ≤ (cf_102 47).toInt from by first | exact oz_f3ebed1ad0 k102_2 g7 | omega) (show (cf_102 47).toInt ≤ 1 from by first | exact oz_878017becc k102_2 g8 | omega) (show 0 ≤ x102_2.toInt from by first | exact oz_18a5c06a28 nc83 | omega) (show mid_102 ≤ x102_2.toInt from by first | with_reducible rfl | with_reducible assumption | omega) (show x102_2.toInt < md114 from by first | with_reducible rfl | with_reducible assumption | omega) (show (na 14 x102_2.toNatClampNeg).toInt = 23 from by first | with_reducible rfl | with_reducible assumption | omega) (show ((1 : Int) = 1 ∧ 6 = 6 ∧ 1 = 1) ∨ ((1 : Int) = 0 ∧ 6 = 5 ∧ 1 = 0) from by first | with_reducible rfl | with_reducible assumption | omega) htk (FsI.le (N' := (pf 13).toInt) hfs (by omega)) (WrV.u (WrV.u hwr (by decide) (by decide)) (by decide) (by decide)) (KnT.eq hkt (show _ = (cf_102 33).toInt by omega)) (FnT.eq hft (show _ = (cf_102 38).toInt by omega)) (KnS.eq (KnS.yy hks9 (by omega)) (show _ = (cf_102 33).toInt by omega) (show _ = (cf_102 48).toInt by omega)) hfp (syr_0 (Int.le_refl _)) han (show txo (cf_102 43).toInt = 1 from by unfold txo; rw [if_pos (by omega)]) hrvd _) hT (pr := []) (pcs := [wdP cs h r g tf ta pf na ma_102 wa (upd (upd cf_102 42 0) 54 (cf_102 55)) ca_102 ef ea xf xa]) hw (oX_call (P := (fun A U H => (oP A g U H))) (pr := []) oG_P hw hA hP) (px_recv hT hw 0 0 rfl rfl rfl) m13_29 m13_26 m13_28 ms_13_4 m1_21 q_Mpg_declare ⟨show (4 * d + 22) + 1 ≤ (6 * d + 40) from by first | with_reducible rfl | with_reducible assumption | omega, show 8 + (5 + 11) + (200 * d + 780) ≤ (260 * d + 1500) from by first | with_reducible rfl | with_reducible assumption | omega⟩ hl.1 rfl (Nat.le_of_ble_eq_true rfl) d_Mpg_checkText_163 ⟨Nat.le_of_ble_eq_true rfl, Nat.le_of_ble_eq_true rfl⟩) hw hA (fun p126 H locs hp126 hw => ?_)
            obtain ⟨ma123, cf124, ca125, rfl, e128, e129, e130, e131, e132, e133, e134, e135, e136, e137, e138, e139, e140, e141, e142, e143, e144, e145, e146, e147, e148, e149, e150, e151, e152, e153, e154, e155, e156⟩ := hp126
            replace e128 : (cf124 30).toInt = 0 → (cf_102 30).toInt = 0 := e128
            replace e129 : WrV cf124 (tf 6).toInt := e129
            have hwr := e129
            have hw0_e129 := hwr.1
            replace e130 : (cf124 37).toInt = (cf_102 37).toInt := e130
            replace e131 : (cf124 38).toInt = (cf_102 38).toInt := e131
            replace e132 : (cf124 43).toInt = (cf_102 43).toInt := e132
            replace e133 : (cf124 44).toInt = (cf_102 44).toInt := e133
            replace e134 : (cf124 45).toInt = (cf_102 45).toInt := e134
            replace e135 : (cf124 46).toInt = (cf_102 46).toInt := e135
            replace e136 : (cf124 47).toInt = (cf_102 47).toInt := e136
            replace e137 : (cf124 41).toInt = (cf_102 41).toInt := e137
            replace e138 : (cf124 55).toInt = (cf_102 55).toInt := e138
            replace e139 : (cf124 59).toInt = (cf_102 59).toInt := e139
            replace e140 : (cf_102 33).toInt ≤ (cf124 33).toInt := e140
            replace e141 : 6 * (cf124 33).toInt ≤ 6 * (cf_102 33).toInt + (wv115) := e141
            replace e142 : (cf_102 48).toInt ≤ (cf124 48).toInt := e142
            replace e143 : 6 * (cf124 48).toInt ≤ 6 * (cf_102 48).toInt + (wv115) := e143
            replace e144 : (cf_102 55).toInt ≤ (cf124 54).toInt := e144
            replace e145 : (0 : Int) ≤ (cf124 42).toInt := e145
            replace e146 : (cf124 54).toInt - (cf_102 55).toInt ≤ 4 * ((cf124 42).toInt - (0 : Int)) := e146
            replace e147 : (cf124 54).toInt - (cf_102 55).toInt ≤ 4096 * ((cf124 48).toInt - (cf_102 48).toInt) := e147
            replace e148 : (cf124 42).toInt - (0 : Int) ≤ 4096 * ((cf124 48).toInt - (cf_102 48).toInt) := e148
            replace e149 : KnT (tf 6).toInt ca125 (cf124 33).toInt := e149
            have hkt := e149
            have hk11_e149 := hkt.1
            replace e150 : KnS ca125 (cf124 33).toInt (cf124 48).toInt (cf_102 48).toInt := e150
            replace e151 : CaG ca_102 ca125 (cf_102 33).toInt (cf_102 48).toInt := e151
            replace e152 : SyR ca125 (cf_102 48).toInt (cf124 48).toInt (cf124 54).toInt 1 := e152
            replace e153 : Ann na ma0 ma123 := e153
            have han := e153
            replace e154 : FrC mid_102 md114 ma_102 ma123 := e154
            have hcf_e154 := (CaG.f (f := x102_1.toNatClampNeg) e151)
            have hcx_e154 := cl_nat (x := x102_1) (by first | exact k102_14 | omega)
            have hzfa : ZFa cf124 ta ca125 na ma0 ma123 (tf 6).toInt nf_102 (cf124 48).toInt d md114 x102_1.toInt := (fun q9 => FnA.tr (hzfa (by omega)) e154 (by omega) hcf_e154 (by omega) (by omega) (by omega))
            have hzpc : ZPc cf124 ta ca125 na ma0 ma123 nf_102 (cf124 48).toInt md114 (pf 24) x102_2 := (fun q9 => PcR.tr (hzpc (by omega)) e154 (by omega) hcf_e154 (by omega) (by omega))
            have hft := hft.cf hcf_e154
            have hfp := hfp.cf hcf_e154
            have hfz := hfz.cf hcf_e154
            have hfg1 := hfg1.cf hcf_e154
            have hsrx : SyR ca125 (cf_102 48).toInt (cf124 48).toInt (cf124 54).toInt 1 := e152
            have hks9 := KnS.back e150 hsrx
            replace e155 : Sy3 ca125 (cf_102 48).toInt (cf124 48).toInt := e155
            have htxs := TxS.de htxs e151 hsrx e155 (by omega)
            replace e156 : ZTw cf124 ta ca125 na ma0 (cf124 48).toInt (cf_102 48).toInt nf_102 ma123 mid_102 md114 (na 17 x102_2.toNatClampNeg) 6 := e156
            replace hw : pw D A s.heap H locs [wdP cs h r g tf ta pf na ma123 wa cf124 ca125 ef ea xf xa] := hw
            refine lv_aload_n S.x S.b d_Mpg_checkText_166 rfl (lv_at hl 0 rfl) ?_
            refine lv_aload_n S.x S.b d_Mpg_checkText_167 rfl (lv_at hl 0 rfl) ?_
            refine px_get S k_Mpg hT hw 0 0 54 (v := .int (cf124 54)) rfl rfl rfl (by decide) m10_49 d_Mpg_checkText_168 ?_
            refine px_put S k_Mpg hT hw 0 0 55 rfl rfl (by decide) m10_51 rfl rfl rfl (Nat.le_of_ble_eq_true rfl) d_Mpg_checkText_171 (w' := wdP cs h r g tf ta pf na ma123 wa (upd cf124 55 (cf124 54)) ca125 ef ea xf xa) (ps' := [wdP cs h r g tf ta pf na ma123 wa (upd cf124 55 (cf124 54)) ca125 ef ea xf xa]) rfl rfl (fun H locs hw => ?_)
            refine lv_aload_n S.x S.b d_Mpg_checkText_174 rfl (lv_at hl 0 rfl) ?_
            refine lv_aload_n S.x S.b d_Mpg_checkText_175 rfl (lv_at hl 0 rfl) ?_
            refine px_get S k_Mpg hT hw 0 0 41 (v := .int (cf124 41)) rfl rfl rfl (by decide) m10_32 d_Mpg_checkText_176 ?_
            refine lv_aload_n S.x S.b d_Mpg_checkText_179 rfl (lv_at hl 0 rfl) ?_
            refine px_get S k_Mpg hT hw 0 0 42 (v := .int (cf124 42)) rfl rfl rfl (by decide) m10_33 d_Mpg_checkText_180 ?_
            refine lv_iadd S.x S.b d_Mpg_checkText_183 ?_
            have lr157 := Int32.le_toInt (cf124 41)
            have ur157 := Int32.toInt_lt (cf124 41)
            have lr158 := Int32.le_toInt (cf124 42)
            have ur158 := Int32.toInt_lt (cf124 42)
            refine lv_topi (fun z159 ez159 => ?_)
            have tz159 : z159.toInt = ((cf124 41).toInt + (cf124 42).toInt + 2147483648) % 4294967296 - 2147483648 := by rw [ez159]; exact i_add (cf124 41) (cf124 42)
            have lz159 := Int32.le_toInt z159
            have uz159 := Int32.toInt_lt z159
            try replace tz159 : z159.toInt = (cf124 41).toInt + (cf124 42).toInt := by omega
            refine px_put S k_Mpg hT hw 0 0 41 rfl rfl (by decide) m10_32 rfl rfl rfl (Nat.le_of_ble_eq_true rfl) d_Mpg_checkText_184 (w' := wdP cs h r g tf ta pf na ma123 wa (upd (upd cf124 41 z159) 55 (cf124 54)) ca125 ef ea xf xa) (ps' := [wdP cs h r g tf ta pf na ma123 wa (upd (upd cf124 41 z159) 55 (cf124 54)) ca125 ef ea xf xa]) rfl rfl (fun H locs hw => ?_)
            refine lv_aload_n S.x S.b d_Mpg_checkText_187 rfl (lv_at hl 0 rfl) ?_
            refine px_get S k_Mpg hT hw 0 0 21 (v := .ref (r 21)) rfl rfl rfl (by decide) m10_7 d_Mpg_checkText_188 ?_
            refine lv_iload_n S.x S.b d_Mpg_checkText_191 rfl (lv_at hl 2 rfl) ?_
            refine px_iald S hT hw 0 17 (n := 2100) (f := (na 21)) rfl gp_21 (x := x102_2) (vp_in_iff.mpr (by constructor <;> omega)) d_Mpg_checkText_192 ?_
            refine lv_topi (fun z160 ez160 => ?_)
            have lz160 := Int32.le_toInt z160
            have uz160 := Int32.toInt_lt z160
            refine lv_istore_n (lv' := [(2, .int z160), (0, .ref h), (1, .int x102_1)]) S.x S.b d_Mpg_checkText_193 rfl hl (by decide) rfl (fun ls hl => ?_)
            refine lv_goto (tgt := 102) S.x S.b d_Mpg_checkText_194 (by decide) ?_
            exact ih102 ma123 (upd (upd cf124 41 z159) 55 (cf124 54)) ca125 md114 (wr_102 - wv115) nf_102 x102_1 z160 _ _ ls (show WrV (upd (upd cf124 41 z159) 55 (cf124 54)) (tf 6).toInt from (WrV.u (WrV.u hwr (by decide) (by decide)) (by decide) (by decide))) (show (cf124 46).toInt = (cf 46).toInt from by first | exact oz_1687f4cc65 k102_1 e135 | omega) (show (cf124 47).toInt = (cf 47).toInt from by first | exact oz_1687f4cc65 k102_2 e136 | omega) (show (cf124 38).toInt = nf_102 from by first | exact oz_1687f4cc65 k102_3 e131 | omega) (show 0 ≤ nf_102 from by first | exact k102_4 | omega) (show nf_102 ≤ 260 from by first | exact k102_5 | omega) (show 0 ≤ (cf124 33).toInt from by first | exact oz_16d7fa9f32 e140 k102_6 | omega) (show 6 * (cf124 33).toInt + (wr_102 - wv115) ≤ w from by first | exact oz_fb9374997e k102_7 e141 | omega) (show 0 ≤ (cf124 48).toInt from by first | exact oz_5608f3e637 e148 k102_16 k102_17 k102_20 e144 e146 | omega) (show 6 * (cf124 48).toInt + (wr_102 - wv115) ≤ w from by first | exact oz_fb9374997e k102_9 e143 | omega) (show (cf124 37).toInt = 0 from by first | exact oz_4193540c58 e130 k102_10 | omega) (show (cf124 44).toInt = 0 from by first | exact oz_4193540c58 e133 k102_11 | omega) (show (cf124 45).toInt = 0 from by first | exact oz_4193540c58 e134 k102_12 | omega) (show (cf124 43).toInt = -1 from by first | exact oz_a5717c4bb3 e132 k102_13 | omega) (show 0 ≤ x102_1.toInt from by first | exact k102_14 | omega) (show x102_1.toInt ≤ nf_102 from by first | exact k102_15 | omega) (show 0 ≤ (cf124 54).toInt from by first | exact oz_16d7fa9f32 e144 k102_16 | omega) (show (cf124 54).toInt ≤ 4 * z159.toInt from by first | exact oz_b9606414b9 e146 tz159 k102_17 e137 | omega) (show 0 ≤ z159.toInt from by first | exact oz_715b55e286 tz159 e137 e146 k102_16 k102_17 e144 | omega) (show (cf124 54).toInt ≤ 4096 * (cf124 48).toInt from by first | exact oz_c501c098b4 e147 k102_19 | omega) (show z159.toInt ≤ 4096 * (cf124 48).toInt from by first | exact oz_22b25d5c25 e148 tz159 k102_20 e137 | omega) (show 0 ≤ md114 from by first | with_reducible rfl | with_reducible assumption | omega) (show md114 ≤ (pf 13).toInt from by first | with_reducible rfl | with_reducible assumption | omega) (show 0 ≤ (wr_102 - wv115) from by first | with_reducible rfl | with_reducible assumption | omega) (show (wr_102 - wv115) ≤ w from by first | exact oz_b0666eb655 k102_9 e143 k102_8 e142 | omega) (show KnT (tf 6).toInt ca125 (cf124 33).toInt from (KnT.eq hkt (by omega))) (show KnS ca125 (cf124 33).toInt (cf124 48).toInt 5000 from (KnS.eq hks9 (by omega) (by omega))) (show FnT (tf 6).toInt na ca125 (cf124 38).toInt from (FnT.eq hft (show _ = (cf124 38).toInt by omega))) (show FnP na ca125 nf_102 from (FnP.eq hfp (by omega))) (show FqE na ca125 nf_102 z160 x102_1.toInt from (FqE.eq (by rw [ez160]; exact hfg1) (by omega))) (show FqZ na ca125 nf_102 (pf 24) from (FqZ.eq hfz (by omega))) (show Ann na ma0 ma123 from han) (show TxS ca125 (cf124 48).toInt (cf124 54).toInt from (TxS.eq htxs (by omega) (by omega))) (show RvC ta (tf 6).toInt na ma0 d md114 (pf 13).toInt (wr_102 - wv115) z160 from (by rw [ez160]; exact hrc2)) (show ZFa (upd (upd cf124 41 z159) 55 (cf124 54)) ta ca125 na ma0 ma123 (tf 6).toInt nf_102 (cf124 48).toInt d md114 x102_1.toInt from (fun zz => hzfa (by have q8 : (cf124 30).toInt = 0 := zz; omega))) (show ZPc (upd (upd cf124 41 z159) 55 (cf124 54)) ta ca125 na ma0 ma123 nf_102 (cf124 48).toInt md114 (pf 24) z160 from (fun zz => PcR.nx (hzpc (by have q8 : (cf124 30).toInt = 0 := zz; omega)) (by omega) (fun _ => ⟨mid_102, md114, ⟨by omega, by omega⟩, pcd_mk e156 hsrx (by have q8 : (cf124 30).toInt = 0 := zz; omega)⟩) ez160)) (show (pf 13).toInt - md114 < (n_102 : Int) from by first | with_reducible rfl | with_reducible assumption | omega) hw (lv_sub hl [1, 2, 0] rfl)
          · have nc119 : z118.toInt = (43 : Int) := (i_eq (x := z118) (y := 43)).mp c119
            refine lv_aload_n S.x S.b d_Mpg_checkText_139 rfl (lv_at hl 0 rfl) ?_
            refine lv_iload_n S.x S.b d_Mpg_checkText_140 rfl (lv_at hl 2 rfl) ?_
            have hroe := PcV.en hpc (by omega); have hfg1 := hfg0.2 (by omega)
            refine px_callv (pr := []) (px_runV (As := [.int x102_2]) (rest := []) S (c_mp_checkEnum l D cs ma0 5000 nf_102 d mid_102 md114 wv115 h r g tf ta pf na wa ef ea xf xa ma_102 cf_102 ca_102 x102_2  (show 0 ≤ mid_102 from by first | exact k102_21 | omega) (show md114 ≤ (pf 13).toInt from by first | with_reducible rfl | with_reducible assumption | omega) (show (pf 13).toInt ≤ 2100 from by first | exact g1 | omega) (show (tf 6).toInt ≤ 2049 from by first | exact g3 | omega) (show 0 ≤ (cf_102 33).toInt from by first | exact k102_6 | omega) (show 0 ≤ wv115 from by first | exact hm3_md114 | omega) (show 6 * (cf_102 33).toInt + wv115 ≤ 6540 from by first | with_reducible rfl | with_reducible assumption | omega) (show 0 ≤ (cf_102 48).toInt from by first | exact k102_8 | omega) (show 6 * (cf_102 48).toInt ≤ 6540 from by first | exact oz_6fee9c7465 k102_9 g9 k102_23 | omega) (show (cf_102 38).toInt = nf_102 from by first | exact k102_3 | omega) (show 0 ≤ nf_102 from by first | exact k102_4 | omega) (show 0 ≤ (cf_102 37).toInt from by first | exact oz_b1de7dbe7e k102_10 | omega) (show 0 ≤ (cf_102 46).toInt from by first | exact oz_f3ebed1ad0 k102_1 g5 | omega) (show (cf_102 46).toInt ≤ 1 from by first | exact oz_878017becc k102_1 g6 | omega) (show 0 ≤ (cf_102 47).toInt from by first | exact oz_f3ebed1ad0 k102_2 g7 | omega) (show (cf_102 47).toInt ≤ 1 from by first | exact oz_878017becc k102_2 g8 | omega) (show 0 ≤ x102_2.toInt from by first | exact oz_18a5c06a28 nc83 | omega) (show mid_102 ≤ x102_2.toInt from by first | with_reducible rfl | with_reducible assumption | omega) (show x102_2.toInt < md114 from by first | with_reducible rfl | with_reducible assumption | omega) htk (FsI.le (N' := (pf 13).toInt) hfs (by omega)) hwr (KnT.eq hkt (by omega)) (FnT.eq hft (by omega)) (KnS.eq hks9 (show _ = (cf_102 33).toInt by omega) (show _ = (cf_102 48).toInt by omega)) hfp han hroe _) hT (pr := []) (pcs := [wdP cs h r g tf ta pf na ma_102 wa cf_102 ca_102 ef ea xf xa]) hw (oX_call (P := (fun A U H => (oP A g U H))) (pr := []) oG_P hw hA hP) (px_recv hT hw 0 0 rfl rfl rfl) m13_69 m13_66 m13_68 ms_13_14 m1_21 q_Mpg_checkEnum ⟨show (4 * d + 20) + 1 ≤ (6 * d + 40) from by first | with_reducible rfl | with_reducible assumption | omega, show 8 + (4 + 11) + (200 * d + 720) ≤ (260 * d + 1500) from by first | with_reducible rfl | with_reducible assumption | omega⟩ hl.1 rfl (Nat.le_of_ble_eq_true rfl) d_Mpg_checkText_141 ⟨Nat.le_of_ble_eq_true rfl, Nat.le_of_ble_eq_true rfl⟩) hw hA (fun p167 H locs hp167 hw => ?_)
            obtain ⟨ma164, cf165, ca166, rfl, e169, e170, e171, e172, e173, e174, e175, e176, e177, e178, e179, e180, e181, e182, e183, e184, e185, e186, e187, e188, e189, e190⟩ := hp167
            replace e169 : (cf165 30).toInt = 0 → (cf_102 30).toInt = 0 := e169
            replace e170 : WrV cf165 (tf 6).toInt := e170
            have hwr := e170
            have hw0_e170 := hwr.1
            replace e171 : (cf165 37).toInt = (cf_102 37).toInt := e171
            replace e172 : (cf165 38).toInt = (cf_102 38).toInt := e172
            replace e173 : (cf165 43).toInt = (cf_102 43).toInt := e173
            replace e174 : (cf165 44).toInt = (cf_102 44).toInt := e174
            replace e175 : (cf165 45).toInt = (cf_102 45).toInt := e175
            replace e176 : (cf165 46).toInt = (cf_102 46).toInt := e176
            replace e177 : (cf165 47).toInt = (cf_102 47).toInt := e177
            replace e178 : (cf165 41).toInt = (cf_102 41).toInt := e178
            replace e179 : (cf165 55).toInt = (cf_102 55).toInt := e179
            replace e180 : (cf165 48).toInt = (cf_102 48).toInt := e180
            replace e181 : (cf165 42).toInt = (cf_102 42).toInt := e181
            replace e182 : (cf165 54).toInt = (cf_102 54).toInt := e182
            replace e183 : (cf165 59).toInt = (cf_102 59).toInt := e183
            replace e184 : (cf_102 33).toInt ≤ (cf165 33).toInt := e184
            replace e185 : 6 * (cf165 33).toInt ≤ 6 * (cf_102 33).toInt + (wv115) := e185
            replace e186 : KnT (tf 6).toInt ca166 (cf165 33).toInt := e186
            have hkt := e186
            have hk11_e186 := hkt.1
            replace e187 : KnS ca166 (cf165 33).toInt (cf165 48).toInt 5000 := e187
            have hks9 := e187
            replace e188 : CaG ca_102 ca166 (cf_102 33).toInt (cf_102 48).toInt := e188
            replace e189 : Ann na ma0 ma164 := e189
            have han := e189
            replace e190 : FrC mid_102 md114 ma_102 ma164 := e190
            have hcf_e190 := (CaG.f (f := x102_1.toNatClampNeg) e188)
            have hcx_e190 := cl_nat (x := x102_1) (by first | exact k102_14 | omega)
            have hzfa : ZFa cf165 ta ca166 na ma0 ma164 (tf 6).toInt nf_102 (cf165 48).toInt d md114 x102_1.toInt := (fun q9 => FnA.tr (hzfa (by omega)) e190 (by omega) hcf_e190 (by omega) (by omega) (by omega))
            have hzpc : ZPc cf165 ta ca166 na ma0 ma164 nf_102 (cf165 48).toInt md114 (pf 24) x102_2 := (fun q9 => PcR.tr (hzpc (by omega)) e190 (by omega) hcf_e190 (by omega) (by omega))
            have hft := hft.cf hcf_e190
            have hfp := hfp.cf hcf_e190
            have hfz := hfz.cf hcf_e190
            have hfg1 := hfg1.cf hcf_e190
            have htxs := TxS.cf (ns' := (cf165 48).toInt) htxs hcf_e190 (fun y9 a9 b9 => absurd b9 (by omega))
            replace hw : pw D A s.heap H locs [wdP cs h r g tf ta pf na ma164 wa cf165 ca166 ef ea xf xa] := hw
            refine lv_goto (tgt := 187) S.x S.b d_Mpg_checkText_144 (by decide) ?_
            refine lv_aload_n S.x S.b d_Mpg_checkText_187 rfl (lv_at hl 0 rfl) ?_
            refine px_get S k_Mpg hT hw 0 0 21 (v := .ref (r 21)) rfl rfl rfl (by decide) m10_7 d_Mpg_checkText_188 ?_
            refine lv_iload_n S.x S.b d_Mpg_checkText_191 rfl (lv_at hl 2 rfl) ?_
            refine px_iald S hT hw 0 17 (n := 2100) (f := (na 21)) rfl gp_21 (x := x102_2) (vp_in_iff.mpr (by constructor <;> omega)) d_Mpg_checkText_192 ?_
            refine lv_topi (fun z191 ez191 => ?_)
            have lz191 := Int32.le_toInt z191
            have uz191 := Int32.toInt_lt z191
            refine lv_istore_n (lv' := [(2, .int z191), (0, .ref h), (1, .int x102_1)]) S.x S.b d_Mpg_checkText_193 rfl hl (by decide) rfl (fun ls hl => ?_)
            refine lv_goto (tgt := 102) S.x S.b d_Mpg_checkText_194 (by decide) ?_
            exact ih102 ma164 cf165 ca166 md114 (wr_102 - wv115) nf_102 x102_1 z191 _ _ ls (show WrV cf165 (tf 6).toInt from hwr) (show (cf165 46).toInt = (cf 46).toInt from by first | exact oz_1687f4cc65 k102_1 e176 | omega) (show (cf165 47).toInt = (cf 47).toInt from by first | exact oz_1687f4cc65 k102_2 e177 | omega) (show (cf165 38).toInt = nf_102 from by first | exact oz_1687f4cc65 k102_3 e172 | omega) (show 0 ≤ nf_102 from by first | exact k102_4 | omega) (show nf_102 ≤ 260 from by first | exact k102_5 | omega) (show 0 ≤ (cf165 33).toInt from by first | exact oz_16d7fa9f32 e184 k102_6 | omega) (show 6 * (cf165 33).toInt + (wr_102 - wv115) ≤ w from by first | exact oz_fb9374997e k102_7 e185 | omega) (show 0 ≤ (cf165 48).toInt from by first | exact oz_f3ebed1ad0 e180 k102_8 | omega) (show 6 * (cf165 48).toInt + (wr_102 - wv115) ≤ w from by first | exact oz_66631b3390 k102_9 e180 e185 e184 | omega) (show (cf165 37).toInt = 0 from by first | exact oz_4193540c58 e171 k102_10 | omega) (show (cf165 44).toInt = 0 from by first | exact oz_4193540c58 e174 k102_11 | omega) (show (cf165 45).toInt = 0 from by first | exact oz_4193540c58 e175 k102_12 | omega) (show (cf165 43).toInt = -1 from by first | exact oz_a5717c4bb3 e173 k102_13 | omega) (show 0 ≤ x102_1.toInt from by first | exact k102_14 | omega) (show x102_1.toInt ≤ nf_102 from by first | exact k102_15 | omega) (show 0 ≤ (cf165 55).toInt from by first | exact oz_f3ebed1ad0 e179 k102_16 | omega) (show (cf165 55).toInt ≤ 4 * (cf165 41).toInt from by first | exact oz_f9300db2d1 e178 e179 k102_17 | omega) (show 0 ≤ (cf165 41).toInt from by first | exact oz_f3ebed1ad0 e178 k102_18 | omega) (show (cf165 55).toInt ≤ 4096 * (cf165 48).toInt from by first | exact oz_0778144fd0 e179 e180 k102_19 | omega) (show (cf165 41).toInt ≤ 4096 * (cf165 48).toInt from by first | exact oz_0778144fd0 e178 e180 k102_20 | omega) (show 0 ≤ md114 from by first | with_reducible rfl | with_reducible assumption | omega) (show md114 ≤ (pf 13).toInt from by first | with_reducible rfl | with_reducible assumption | omega) (show 0 ≤ (wr_102 - wv115) from by first | with_reducible rfl | with_reducible assumption | omega) (show (wr_102 - wv115) ≤ w from by first | exact oz_63c5da3e37 k102_9 e185 k102_8 e184 | omega) (show KnT (tf 6).toInt ca166 (cf165 33).toInt from (KnT.eq hkt (by omega))) (show KnS ca166 (cf165 33).toInt (cf165 48).toInt 5000 from (KnS.eq hks9 (by omega) (by omega))) (show FnT (tf 6).toInt na ca166 (cf165 38).toInt from (FnT.eq hft (show _ = (cf165 38).toInt by omega))) (show FnP na ca166 nf_102 from (FnP.eq hfp (by omega))) (show FqE na ca166 nf_102 z191 x102_1.toInt from (FqE.eq (by rw [ez191]; exact hfg1) (by omega))) (show FqZ na ca166 nf_102 (pf 24) from (FqZ.eq hfz (by omega))) (show Ann na ma0 ma164 from han) (show TxS ca166 (cf165 48).toInt (cf165 55).toInt from (TxS.eq htxs (by omega) (by omega))) (show RvC ta (tf 6).toInt na ma0 d md114 (pf 13).toInt (wr_102 - wv115) z191 from (by rw [ez191]; exact hrc2)) (show ZFa cf165 ta ca166 na ma0 ma164 (tf 6).toInt nf_102 (cf165 48).toInt d md114 x102_1.toInt from (fun zz => hzfa (by have q8 : (cf165 30).toInt = 0 := zz; omega))) (show ZPc cf165 ta ca166 na ma0 ma164 nf_102 (cf165 48).toInt md114 (pf 24) z191 from (fun zz => PcR.nx (hzpc (by have q8 : (cf165 30).toInt = 0 := zz; omega)) (by omega) (fun q9 => absurd q9 (by omega)) ez191)) (show (pf 13).toInt - md114 < (n_102 : Int) from by first | with_reducible rfl | with_reducible assumption | omega) hw (lv_sub hl [1, 2, 0] rfl)
        · have nc117 : z116.toInt = (41 : Int) := (i_eq (x := z116) (y := 41)).mp c117
          refine lv_aload_n S.x S.b d_Mpg_checkText_117 rfl (lv_at hl 0 rfl) ?_
          refine lv_iload_n S.x S.b d_Mpg_checkText_118 rfl (lv_at hl 1 rfl) ?_
          have hfu := PcV.fu hpc (by omega); have hfg := hfg0.1 (by omega); have hfg1 := hfg.2.2
          refine px_callv (pr := []) (px_runV (As := [.int x102_1]) (rest := []) S (c_mp_checkFunction l D cs ma0 nf_102 d mid_102 md114 wv115 h r g tf ta pf na wa ef ea xf xa ma_102 cf_102 ca_102 x102_1  (show 0 ≤ mid_102 from by first | exact k102_21 | omega) (show md114 ≤ (pf 13).toInt from by first | with_reducible rfl | with_reducible assumption | omega) (show (pf 13).toInt ≤ 2100 from by first | exact g1 | omega) (show (tf 6).toInt ≤ 2049 from by first | exact g3 | omega) (show 0 ≤ (cf_102 33).toInt from by first | exact k102_6 | omega) (show 0 ≤ wv115 from by first | exact hm3_md114 | omega) (show 6 * (cf_102 33).toInt + wv115 ≤ 6540 from by first | with_reducible rfl | with_reducible assumption | omega) (show 0 ≤ (cf_102 48).toInt from by first | exact k102_8 | omega) (show 6 * (cf_102 48).toInt + wv115 ≤ 6540 from by first | with_reducible rfl | with_reducible assumption | omega) (show (cf_102 38).toInt = nf_102 from by first | exact k102_3 | omega) (show 0 ≤ nf_102 from by first | exact k102_4 | omega) (show 0 ≤ (cf_102 37).toInt from by first | exact oz_b1de7dbe7e k102_10 | omega) (show (cf_102 44).toInt = 0 from by first | exact k102_11 | omega) (show (cf_102 45).toInt = 0 from by first | exact k102_12 | omega) (show 0 ≤ (cf_102 46).toInt from by first | exact oz_f3ebed1ad0 k102_1 g5 | omega) (show (cf_102 46).toInt ≤ 1 from by first | exact oz_878017becc k102_1 g6 | omega) (show 0 ≤ (cf_102 47).toInt from by first | exact oz_f3ebed1ad0 k102_2 g7 | omega) (show (cf_102 47).toInt ≤ 1 from by first | exact oz_878017becc k102_2 g8 | omega) (show 0 ≤ x102_1.toInt from by first | exact k102_14 | omega) (show x102_1.toInt < nf_102 from by first | with_reducible rfl | with_reducible assumption | omega) (show (d : Int) ≤ 300 from by first | exact g10 | omega) htk (FsI.le (N' := (pf 13).toInt) hfs (by omega)) hwr (KnT.eq hkt (by omega)) (FnT.eq hft (by omega)) (KnS.eq hks9 (show _ = (cf_102 33).toInt by omega) (show _ = (cf_102 48).toInt by omega)) hfp han (by rw [hfg.2.1]; exact hfu) _) hT (pr := []) (pcs := [wdP cs h r g tf ta pf na ma_102 wa cf_102 ca_102 ef ea xf xa]) hw (oX_call (P := (fun A U H => (oP A g U H))) (pr := []) oG_P hw hA hP) (px_recv hT hw 0 0 rfl rfl rfl) m12_153 m12_150 m12_152 ms_11_7 m1_21 q_Mpg_checkFunction ⟨show (6 * d + 30) + 1 ≤ (6 * d + 40) from by first | with_reducible rfl | with_reducible assumption | omega, show 8 + (9 + 11) + (260 * d + 1200) ≤ (260 * d + 1500) from by first | with_reducible rfl | with_reducible assumption | omega⟩ hl.1 rfl (Nat.le_of_ble_eq_true rfl) d_Mpg_checkText_119 ⟨Nat.le_of_ble_eq_true rfl, Nat.le_of_ble_eq_true rfl⟩) hw hA (fun p198 H locs hp198 hw => ?_)
          obtain ⟨ma195, cf196, ca197, rfl, e200, e201, e202, e203, e204, e205, e206, e207, e208, e209, e210, e211, e212, e213, e214, e215, e216, e217, e218, e219, e220, e221⟩ := hp198
          replace e200 : (cf196 30).toInt = 0 → (cf_102 30).toInt = 0 := e200
          replace e201 : WrV cf196 (tf 6).toInt := e201
          have hwr := e201
          have hw0_e201 := hwr.1
          replace e202 : (cf196 33).toInt = (cf_102 33).toInt := e202
          replace e203 : (cf196 37).toInt = (cf_102 37).toInt := e203
          replace e204 : (cf196 38).toInt = (cf_102 38).toInt := e204
          replace e205 : (cf196 41).toInt = (cf_102 41).toInt := e205
          replace e206 : (cf196 44).toInt = (cf_102 44).toInt := e206
          replace e207 : (cf196 45).toInt = (cf_102 45).toInt := e207
          replace e208 : (cf196 46).toInt = (cf_102 46).toInt := e208
          replace e209 : (cf196 47).toInt = (cf_102 47).toInt := e209
          replace e210 : (cf196 55).toInt = (cf_102 55).toInt := e210
          replace e211 : (cf196 43).toInt = -1 := e211
          replace e212 : (cf_102 48).toInt ≤ (cf196 48).toInt := e212
          replace e213 : 6 * (cf196 48).toInt ≤ 6 * (cf_102 48).toInt + wv115 := e213
          replace e214 : KnT (tf 6).toInt ca197 (cf196 33).toInt := e214
          have hkt := e214
          have hk11_e214 := hkt.1
          replace e215 : KnS ca197 (cf196 33).toInt (cf196 48).toInt 5000 := e215
          have hks9 := e215
          replace e216 : CaF ca_102 ca197 (cf_102 33).toInt (cf_102 48).toInt x102_1.toNatClampNeg := e216
          replace e217 : Ann na ma0 ma195 := e217
          have han := e217
          replace e218 : FrC mid_102 md114 ma_102 ma195 := e218
          have hcf_e218 := e216
          have hcx_e218 := cl_nat (x := x102_1) (by first | exact k102_14 | omega)
          have hzfa : ZFa cf196 ta ca197 na ma0 ma195 (tf 6).toInt nf_102 (cf196 48).toInt d md114 x102_1.toInt := (fun q9 => FnA.tr (hzfa (by omega)) e218 (by omega) hcf_e218 (by omega) (by omega) (by omega))
          have hzpc : ZPc cf196 ta ca197 na ma0 ma195 nf_102 (cf196 48).toInt md114 (pf 24) x102_2 := (fun q9 => PcR.tr (hzpc (by omega)) e218 (by omega) hcf_e218 (by omega) (by omega))
          have hft := hft.cf hcf_e218
          have hfp := hfp.cf hcf_e218
          have hfz := hfz.cf hcf_e218
          have hfg1 := hfg1.cf hcf_e218
          replace e219 : ZFn cf196 ta ca197 na ma0 ma195 nf_102 (cf196 48).toInt mid_102 md114 d x102_1 := e219
          have hfun : FuV ta (tf 6).toInt na ma0 d mid_102 md114 wv115 (ca197 39 x102_1.toNatClampNeg) := (by rw [(e216.1 _).1, hfg.2.1]; exact hfu)
          have hzfn := e219
          replace e220 : ZFu cf196 ta na ca_102 x102_1 := e220
          replace e221 : Sy0 ca197 (cf_102 48).toInt (cf196 48).toInt := e221
          have htxs := TxS.cf htxs e216 e221
          replace hw : pw D A s.heap H locs [wdP cs h r g tf ta pf na ma195 wa cf196 ca197 ef ea xf xa] := hw
          obtain ⟨z222, ez222⟩ : ∃ y : Int32, y = x102_1 + 1 := ⟨_, rfl⟩
          have tz222 : z222.toInt = (x102_1.toInt + 1 + 2147483648) % 4294967296 - 2147483648 := by rw [ez222]; exact i_add x102_1 1
          have lz222 := Int32.le_toInt z222
          have uz222 := Int32.toInt_lt z222
          try replace tz222 : z222.toInt = x102_1.toInt + 1 := by omega
          refine lv_iinc (v := z222) (lv' := [(1, .int z222), (0, .ref h), (2, .int x102_2)]) S.x S.b d_Mpg_checkText_122 hl (k := 1) rfl (by rw [ez222]; rfl) (by decide) rfl (fun ls hl => ?_)
          refine lv_goto (tgt := 187) S.x S.b d_Mpg_checkText_125 (by decide) ?_
          refine lv_aload_n S.x S.b d_Mpg_checkText_187 rfl (lv_at hl 1 rfl) ?_
          refine px_get S k_Mpg hT hw 0 0 21 (v := .ref (r 21)) rfl rfl rfl (by decide) m10_7 d_Mpg_checkText_188 ?_
          refine lv_iload_n S.x S.b d_Mpg_checkText_191 rfl (lv_at hl 2 rfl) ?_
          refine px_iald S hT hw 0 17 (n := 2100) (f := (na 21)) rfl gp_21 (x := x102_2) (vp_in_iff.mpr (by constructor <;> omega)) d_Mpg_checkText_192 ?_
          refine lv_topi (fun z223 ez223 => ?_)
          have lz223 := Int32.le_toInt z223
          have uz223 := Int32.toInt_lt z223
          refine lv_istore_n (lv' := [(2, .int z223), (1, .int z222), (0, .ref h)]) S.x S.b d_Mpg_checkText_193 rfl hl (by decide) rfl (fun ls hl => ?_)
          refine lv_goto (tgt := 102) S.x S.b d_Mpg_checkText_194 (by decide) ?_
          exact ih102 ma195 cf196 ca197 md114 (wr_102 - wv115) nf_102 z222 z223 _ _ ls (show WrV cf196 (tf 6).toInt from hwr) (show (cf196 46).toInt = (cf 46).toInt from by first | exact oz_1687f4cc65 k102_1 e208 | omega) (show (cf196 47).toInt = (cf 47).toInt from by first | exact oz_1687f4cc65 k102_2 e209 | omega) (show (cf196 38).toInt = nf_102 from by first | exact oz_1687f4cc65 k102_3 e204 | omega) (show 0 ≤ nf_102 from by first | exact k102_4 | omega) (show nf_102 ≤ 260 from by first | exact k102_5 | omega) (show 0 ≤ (cf196 33).toInt from by first | exact oz_f3ebed1ad0 e202 k102_6 | omega) (show 6 * (cf196 33).toInt + (wr_102 - wv115) ≤ w from by first | exact oz_e39ac9ea3f k102_7 e202 e213 e212 | omega) (show 0 ≤ (cf196 48).toInt from by first | exact oz_16d7fa9f32 e212 k102_8 | omega) (show 6 * (cf196 48).toInt + (wr_102 - wv115) ≤ w from by first | exact oz_09655d0a70 k102_9 e213 | omega) (show (cf196 37).toInt = 0 from by first | exact oz_4193540c58 e203 k102_10 | omega) (show (cf196 44).toInt = 0 from by first | exact oz_4193540c58 e206 k102_11 | omega) (show (cf196 45).toInt = 0 from by first | exact oz_4193540c58 e207 k102_12 | omega) (show (cf196 43).toInt = -1 from by first | exact e211 | omega) (show 0 ≤ z222.toInt from by first | exact oz_ae613611c0 tz222 k102_14 | omega) (show z222.toInt ≤ nf_102 from by first | with_reducible rfl | with_reducible assumption | omega) (show 0 ≤ (cf196 55).toInt from by first | exact oz_f3ebed1ad0 e210 k102_16 | omega) (show (cf196 55).toInt ≤ 4 * (cf196 41).toInt from by first | exact oz_f9300db2d1 e205 e210 k102_17 | omega) (show 0 ≤ (cf196 41).toInt from by first | exact oz_f3ebed1ad0 e205 k102_18 | omega) (show (cf196 55).toInt ≤ 4096 * (cf196 48).toInt from by first | exact oz_d83d6a23a0 e210 e212 k102_19 | omega) (show (cf196 41).toInt ≤ 4096 * (cf196 48).toInt from by first | exact oz_d83d6a23a0 e205 e212 k102_20 | omega) (show 0 ≤ md114 from by first | with_reducible rfl | with_reducible assumption | omega) (show md114 ≤ (pf 13).toInt from by first | with_reducible rfl | with_reducible assumption | omega) (show 0 ≤ (wr_102 - wv115) from by first | with_reducible rfl | with_reducible assumption | omega) (show (wr_102 - wv115) ≤ w from by first | exact oz_24514a91eb k102_9 e213 k102_8 e212 | omega) (show KnT (tf 6).toInt ca197 (cf196 33).toInt from (KnT.eq hkt (by omega))) (show KnS ca197 (cf196 33).toInt (cf196 48).toInt 5000 from (KnS.eq hks9 (by omega) (by omega))) (show FnT (tf 6).toInt na ca197 (cf196 38).toInt from (FnT.eq hft (show _ = (cf196 38).toInt by omega))) (show FnP na ca197 nf_102 from (FnP.eq hfp (by omega))) (show FqE na ca197 nf_102 z223 z222.toInt from (FqE.eq (by rw [ez223]; exact hfg1) (by omega))) (show FqZ na ca197 nf_102 (pf 24) from (FqZ.eq hfz (by omega))) (show Ann na ma0 ma195 from han) (show TxS ca197 (cf196 48).toInt (cf196 55).toInt from (TxS.eq htxs (by omega) (by omega))) (show RvC ta (tf 6).toInt na ma0 d md114 (pf 13).toInt (wr_102 - wv115) z223 from (by rw [ez223]; exact hrc2)) (show ZFa cf196 ta ca197 na ma0 ma195 (tf 6).toInt nf_102 (cf196 48).toInt d md114 z222.toInt from (fun zz => FnA.nx (hzfa (by have q8 : (cf196 30).toInt = 0 := zz; omega)) (fn := x102_1) rfl (by omega) (by omega) ⟨by omega, by omega⟩ hfun (hzfn (by have q8 : (cf196 30).toInt = 0 := zz; omega)) (fun j9 h9 => by rw [(e216.1 _).1, (e216.1 _).1]; exact e220 (by have q8 : (cf196 30).toInt = 0 := zz; omega) j9 h9))) (show ZPc cf196 ta ca197 na ma0 ma195 nf_102 (cf196 48).toInt md114 (pf 24) z223 from (fun zz => PcR.nx (hzpc (by have q8 : (cf196 30).toInt = 0 := zz; omega)) (by omega) (fun q9 => absurd q9 (by omega)) ez223)) (show (pf 13).toInt - md114 < (n_102 : Int) from by first | with_reducible rfl | with_reducible assumption | omega) hw (lv_sub hl [2, 1, 0] rfl)
  have J10 : ∀ (n_10 : Nat) (cf_10 : Nat → Int32) (ca_10 : Nat → Nat → Int32) (mid_10 : Int) (wr_10 : Int) (x10_1 : Int32) (H : Heap) (locs : List Loc) (ls : Array Slot), ((cf_10 30).toInt = (cf 30).toInt) → ((cf_10 31).toInt = (cf 31).toInt) → ((cf_10 46).toInt = (cf 46).toInt) → ((cf_10 47).toInt = (cf 47).toInt) → (0 ≤ (cf_10 38).toInt) → (24 * (cf_10 38).toInt + wr_10 ≤ w) → (0 ≤ mid_10) → (mid_10 ≤ (pf 13).toInt) → (0 ≤ wr_10) → (WrV cf_10 (tf 6).toInt) → (FnT (tf 6).toInt na ca_10 (cf_10 38).toInt) → (FnP na ca_10 (cf_10 38).toInt) → (RvC ta (tf 6).toInt na ma0 d mid_10 (pf 13).toInt wr_10 x10_1) → (FqT na ca_10 (pf 24) x10_1 (cf_10 38).toInt) → (pf 13).toInt - mid_10 < (n_10 : Int) → pw D A s.heap H locs [wdP cs h r g tf ta pf na ma wa cf_10 ca_10 ef ea xf xa] → lv_has ls 3 [(0, .ref h), (1, .int x10_1)] → W p l e { frames := (6 * d + 40), cells := 0, slots := 0, locals := (260 * d + 1500) } s m [.ref h].toArray below meth c H locs 0 0 (MQ below (va_Qv (fun ps => ∃ (ma' : Nat → Nat → Int32) (cf' : Nat → Int32) (ca' : Nat → Nat → Int32), (ps = [wdP cs h r g tf ta pf na ma' wa cf' ca' ef ea xf xa]) ∧ (WrV cf' (tf 6).toInt) ∧ ((cf' 46).toInt = (cf 46).toInt) ∧ ((cf' 47).toInt = (cf 47).toInt) ∧ (0 ≤ (cf' 38).toInt) ∧ ((cf' 38).toInt ≤ 260) ∧ (0 ≤ (cf' 48).toInt) ∧ ((cf' 48).toInt ≤ 1090) ∧ (0 ≤ (cf' 55).toInt) ∧ ((cf' 55).toInt ≤ 4 * (cf' 41).toInt) ∧ ((cf' 30).toInt = 0 → (cf' 41).toInt ≤ 8192) ∧ ((cf' 30).toInt = 0 → (cf' 38).toInt ≤ 200) ∧ (FnT (tf 6).toInt na ca' (cf' 38).toInt) ∧ (FnP na ca' (cf' 38).toInt) ∧ (FqZ na ca' (cf' 38).toInt (pf 24)) ∧ (Ann na ma ma') ∧ (TxS ca' (cf' 48).toInt (cf' 55).toInt) ∧ (ZTx cf' ta ca' na ma ma' (tf 6).toInt (tf 5).toInt (cf' 38).toInt (cf' 48).toInt sb d (pf 13).toInt (pf 24))) (pc_B D (va_A ([wdP cs h r g tf ta pf na ma wa cf ca ef ea xf xa] : List va_W).flatten s.heap.size)) (va_A ([wdP cs h r g tf ta pf na ma wa cf ca ef ea xf xa] : List va_W).flatten s.heap.size)) [.ref h].toArray s 0 0 A) (F0 m 10 ls []) := by
    intro  n_10
    induction n_10 with
    | zero =>
      intro cf_10 ca_10 mid_10 wr_10 x10_1 H locs ls k10_0 k10_1 k10_2 k10_3 k10_4 k10_5 k10_6 k10_7 k10_8 k10_9 k10_10 k10_11 k10_12 k10_13 hm hw hl
      have lx10_1 := Int32.le_toInt x10_1
      have ux10_1 := Int32.toInt_lt x10_1
      have hwr := k10_9
      have hw0_k10_9 := hwr.1
      have hft := k10_10
      have hf11 := hft.1
      have hfp := k10_11
      have hrc := k10_12
      have hqt := k10_13
      exact absurd hm (by omega)
    | succ n_10 ih10 =>
      intro cf_10 ca_10 mid_10 wr_10 x10_1 H locs ls k10_0 k10_1 k10_2 k10_3 k10_4 k10_5 k10_6 k10_7 k10_8 k10_9 k10_10 k10_11 k10_12 k10_13 hm hw hl
      have lx10_1 := Int32.le_toInt x10_1
      have ux10_1 := Int32.toInt_lt x10_1
      have hwr := k10_9
      have hw0_k10_9 := hwr.1
      have hft := k10_10
      have hf11 := hft.1
      have hfp := k10_11
      have hrc := k10_12
      have hqt := k10_13
      refine lv_iload_n S.x S.b d_Mpg_checkText_10 rfl (lv_at hl 1 rfl) ?_
      refine lv_if_lt (tgt := 55) S.x S.b d_Mpg_checkText_11 (by decide) (fun c224 => ?_) (fun c224 => ?_)
      · have nc224 : x10_1.toInt < (0 : Int) := (i_lt (x := x10_1) (y := 0)).mp c224
        refine lv_aload_n S.x S.b d_Mpg_checkText_55 rfl (lv_at hl 0 rfl) ?_
        refine lv_iconst (v := 0) S.x S.b d_Mpg_checkText_56 (by decide) ?_
        refine px_put S k_Mpg hT hw 0 0 33 rfl rfl (by decide) m10_22 rfl rfl rfl (Nat.le_of_ble_eq_true rfl) d_Mpg_checkText_57 (w' := wdP cs h r g tf ta pf na ma wa (upd cf_10 33 0) ca_10 ef ea xf xa) (ps' := [wdP cs h r g tf ta pf na ma wa (upd cf_10 33 0) ca_10 ef ea xf xa]) rfl rfl (fun H locs hw => ?_)
        refine lv_aload_n S.x S.b d_Mpg_checkText_60 rfl (lv_at hl 0 rfl) ?_
        refine lv_iconst (v := 0) S.x S.b d_Mpg_checkText_61 (by decide) ?_
        refine px_put S k_Mpg hT hw 0 0 37 rfl rfl (by decide) m10_26 rfl rfl rfl (Nat.le_of_ble_eq_true rfl) d_Mpg_checkText_62 (w' := wdP cs h r g tf ta pf na ma wa (upd (upd cf_10 33 0) 37 0) ca_10 ef ea xf xa) (ps' := [wdP cs h r g tf ta pf na ma wa (upd (upd cf_10 33 0) 37 0) ca_10 ef ea xf xa]) rfl rfl (fun H locs hw => ?_)
        refine lv_aload_n S.x S.b d_Mpg_checkText_65 rfl (lv_at hl 0 rfl) ?_
        refine lv_iconst (v := 0) S.x S.b d_Mpg_checkText_66 (by decide) ?_
        refine px_put S k_Mpg hT hw 0 0 44 rfl rfl (by decide) m10_35 rfl rfl rfl (Nat.le_of_ble_eq_true rfl) d_Mpg_checkText_67 (w' := wdP cs h r g tf ta pf na ma wa (upd (upd (upd cf_10 33 0) 37 0) 44 0) ca_10 ef ea xf xa) (ps' := [wdP cs h r g tf ta pf na ma wa (upd (upd (upd cf_10 33 0) 37 0) 44 0) ca_10 ef ea xf xa]) rfl rfl (fun H locs hw => ?_)
        refine lv_aload_n S.x S.b d_Mpg_checkText_70 rfl (lv_at hl 0 rfl) ?_
        refine lv_iconst (v := 0) S.x S.b d_Mpg_checkText_71 (by decide) ?_
        refine px_put S k_Mpg hT hw 0 0 45 rfl rfl (by decide) m10_36 rfl rfl rfl (Nat.le_of_ble_eq_true rfl) d_Mpg_checkText_72 (w' := wdP cs h r g tf ta pf na ma wa (upd (upd (upd (upd cf_10 33 0) 37 0) 44 0) 45 0) ca_10 ef ea xf xa) (ps' := [wdP cs h r g tf ta pf na ma wa (upd (upd (upd (upd cf_10 33 0) 37 0) 44 0) 45 0) ca_10 ef ea xf xa]) rfl rfl (fun H locs hw => ?_)
        refine lv_aload_n S.x S.b d_Mpg_checkText_75 rfl (lv_at hl 0 rfl) ?_
        refine lv_iconst (v := (-1)) S.x S.b d_Mpg_checkText_76 (by decide) ?_
        refine px_put S k_Mpg hT hw 0 0 43 rfl rfl (by decide) m10_34 rfl rfl rfl (Nat.le_of_ble_eq_true rfl) d_Mpg_checkText_77 (w' := wdP cs h r g tf ta pf na ma wa (upd (upd (upd (upd (upd cf_10 33 0) 37 0) 43 (-1)) 44 0) 45 0) ca_10 ef ea xf xa) (ps' := [wdP cs h r g tf ta pf na ma wa (upd (upd (upd (upd (upd cf_10 33 0) 37 0) 43 (-1)) 44 0) 45 0) ca_10 ef ea xf xa]) rfl rfl (fun H locs hw => ?_)
        refine lv_iconst (v := 0) S.x S.b d_Mpg_checkText_80 (by decide) ?_
        refine lv_istore_n (lv' := [(1, .int 0), (0, .ref h)]) S.x S.b d_Mpg_checkText_81 rfl hl (by decide) rfl (fun ls hl => ?_)
        refine lv_aload_n S.x S.b d_Mpg_checkText_82 rfl (lv_at hl 1 rfl) ?_
        refine lv_iconst (v := 0) S.x S.b d_Mpg_checkText_83 (by decide) ?_
        refine px_put S k_Mpg hT hw 0 0 48 rfl rfl (by decide) m10_39 rfl rfl rfl (Nat.le_of_ble_eq_true rfl) d_Mpg_checkText_84 (w' := wdP cs h r g tf ta pf na ma wa (upd (upd (upd (upd (upd (upd cf_10 33 0) 37 0) 43 (-1)) 44 0) 45 0) 48 0) ca_10 ef ea xf xa) (ps' := [wdP cs h r g tf ta pf na ma wa (upd (upd (upd (upd (upd (upd cf_10 33 0) 37 0) 43 (-1)) 44 0) 45 0) 48 0) ca_10 ef ea xf xa]) rfl rfl (fun H locs hw => ?_)
        refine lv_aload_n S.x S.b d_Mpg_checkText_87 rfl (lv_at hl 1 rfl) ?_
        refine lv_iconst (v := 0) S.x S.b d_Mpg_checkText_88 (by decide) ?_
        refine px_put S k_Mpg hT hw 0 0 55 rfl rfl (by decide) m10_51 rfl rfl rfl (Nat.le_of_ble_eq_true rfl) d_Mpg_checkText_89 (w' := wdP cs h r g tf ta pf na ma wa (upd (upd (upd (upd (upd (upd (upd cf_10 33 0) 37 0) 43 (-1)) 44 0) 45 0) 48 0) 55 0) ca_10 ef ea xf xa) (ps' := [wdP cs h r g tf ta pf na ma wa (upd (upd (upd (upd (upd (upd (upd cf_10 33 0) 37 0) 43 (-1)) 44 0) 45 0) 48 0) 55 0) ca_10 ef ea xf xa]) rfl rfl (fun H locs hw => ?_)
        refine lv_aload_n S.x S.b d_Mpg_checkText_92 rfl (lv_at hl 1 rfl) ?_
        refine lv_iconst (v := 0) S.x S.b d_Mpg_checkText_93 (by decide) ?_
        refine px_put S k_Mpg hT hw 0 0 41 rfl rfl (by decide) m10_32 rfl rfl rfl (Nat.le_of_ble_eq_true rfl) d_Mpg_checkText_94 (w' := wdP cs h r g tf ta pf na ma wa (upd (upd (upd (upd (upd (upd (upd (upd cf_10 33 0) 37 0) 41 0) 43 (-1)) 44 0) 45 0) 48 0) 55 0) ca_10 ef ea xf xa) (ps' := [wdP cs h r g tf ta pf na ma wa (upd (upd (upd (upd (upd (upd (upd (upd cf_10 33 0) 37 0) 41 0) 43 (-1)) 44 0) 45 0) 48 0) 55 0) ca_10 ef ea xf xa]) rfl rfl (fun H locs hw => ?_)
        refine lv_aload_n S.x S.b d_Mpg_checkText_97 rfl (lv_at hl 1 rfl) ?_
        refine px_get S k_Mpg hT hw 0 0 24 (v := .int (pf 24)) rfl rfl rfl (by decide) m10_12 d_Mpg_checkText_98 ?_
        refine lv_istore_n (lv' := [(2, .int (pf 24)), (1, .int 0), (0, .ref h)]) S.x S.b d_Mpg_checkText_101 rfl hl (by decide) rfl (fun ls hl => ?_)
        exact J102 (((pf 13).toInt - 0).toNat + 1) ma (upd (upd (upd (upd (upd (upd (upd (upd cf_10 33 0) 37 0) 41 0) 43 (-1)) 44 0) 45 0) 48 0) 55 0) ca_10 0 w (cf_10 38).toInt (0 : Int32) (pf 24) _ _ ls (show WrV (upd (upd (upd (upd (upd (upd (upd (upd cf_10 33 0) 37 0) 41 0) 43 (-1)) 44 0) 45 0) 48 0) 55 0) (tf 6).toInt from (WrV.u (WrV.u (WrV.u (WrV.u (WrV.u (WrV.u (WrV.u (WrV.u hwr (by decide) (by decide)) (by decide) (by decide)) (by decide) (by decide)) (by decide) (by decide)) (by decide) (by decide)) (by decide) (by decide)) (by decide) (by decide)) (by decide) (by decide))) (show (cf_10 46).toInt = (cf 46).toInt from by first | exact k10_2 | omega) (show (cf_10 47).toInt = (cf 47).toInt from by first | exact k10_3 | omega) (show (cf_10 38).toInt = (cf_10 38).toInt from rfl) (show 0 ≤ (cf_10 38).toInt from by first | exact k10_4 | omega) (show (cf_10 38).toInt ≤ 260 from by first | exact hf11 | omega) (show 0 ≤ (0 : Int) from by first | decide | omega) (show 6 * (0 : Int) + w ≤ w from by first | exact oz_f48bf4be2a | omega) (show 0 ≤ (0 : Int) from by first | decide | omega) (show 6 * (0 : Int) + w ≤ w from by first | exact oz_f48bf4be2a | omega) (show (0 : Int) = 0 from by first | decide | omega) (show (0 : Int) = 0 from by first | decide | omega) (show (0 : Int) = 0 from by first | decide | omega) (show (-1 : Int) = -1 from by first | decide | omega) (show 0 ≤ (0 : Int) from by first | decide | omega) (show (0 : Int) ≤ (cf_10 38).toInt from by first | exact oz_50c21e157e k10_4 | omega) (show 0 ≤ (0 : Int) from by first | decide | omega) (show (0 : Int) ≤ 4 * (0 : Int) from by first | decide | omega) (show 0 ≤ (0 : Int) from by first | decide | omega) (show (0 : Int) ≤ 4096 * (0 : Int) from by first | decide | omega) (show (0 : Int) ≤ 4096 * (0 : Int) from by first | decide | omega) (show 0 ≤ 0 from by first | decide | omega) (show 0 ≤ (pf 13).toInt from by first | exact g0 | omega) (show 0 ≤ w from by first | exact hwp0 | omega) (show w ≤ w from by first | exact oz_1cb5f934a5 | omega) (show KnT (tf 6).toInt ca_10 (0 : Int) from ⟨by first | exact oz_adb5b99fec | omega, fun i9 h9 => absurd h9 (by omega)⟩) (show KnS ca_10 (0 : Int) (0 : Int) 5000 from (fun i9 h9 => absurd h9 (by omega))) (show FnT (tf 6).toInt na ca_10 (cf_10 38).toInt from (FnT.eq hft (show _ = (cf_10 38).toInt by omega))) (show FnP na ca_10 (cf_10 38).toInt from (FnP.eq hfp (by omega))) (show FqE na ca_10 (cf_10 38).toInt (pf 24) (0 : Int) from (FqT.e hqt (by omega))) (show FqZ na ca_10 (cf_10 38).toInt (pf 24) from (FqT.e hqt (by omega))) (show Ann na ma0 ma from han) (show TxS ca_10 (0 : Int) (0 : Int) from txs_0) (show RvC ta (tf 6).toInt na ma0 d 0 (pf 13).toInt w (pf 24) from hrc0) (show ZFa (upd (upd (upd (upd (upd (upd (upd (upd cf_10 33 0) 37 0) 41 0) 43 (-1)) 44 0) 45 0) 48 0) 55 0) ta ca_10 na ma0 ma (tf 6).toInt (cf_10 38).toInt (0 : Int) d 0 (0 : Int) from (fun _ f9 h9 => absurd h9 (by omega))) (show ZPc (upd (upd (upd (upd (upd (upd (upd (upd cf_10 33 0) 37 0) 41 0) 43 (-1)) 44 0) 45 0) 48 0) 55 0) ta ca_10 na ma0 ma (cf_10 38).toInt (0 : Int) 0 (pf 24) (pf 24) from (fun _ => ⟨0, rfl⟩)) (show (pf 13).toInt - 0 < (((((pf 13).toInt - 0).toNat + 1 : Nat) : Int) : Int) from by first | exact oz_natlt | omega) hw (lv_sub hl [2, 1, 0] rfl)
      · have nc224 : ¬ x10_1.toInt < (0 : Int) := mt (i_lt (x := x10_1) (y := 0)).mpr c224
        refine lv_aload_n S.x S.b d_Mpg_checkText_14 rfl (lv_at hl 0 rfl) ?_
        obtain ⟨md225, wv226, hm1_md225, hm2_md225, hm3_md225, hpc, hx3_md225, hrc2⟩ := RvE.step hrc (by omega); have hpr := PcV.rng hpc; have hpk := PcV.kind hpc; have hwp2 := RvE.wp hrc2
        refine px_get S k_Mpg hT hw 0 0 14 (v := .ref (r 14)) rfl rfl rfl (by decide) m9_238 d_Mpg_checkText_15 ?_
        refine lv_iload_n S.x S.b d_Mpg_checkText_18 rfl (lv_at hl 1 rfl) ?_
        refine px_bald S hT hw 0 10 (n := 2100) (f := (na 14)) rfl gp_14 (x := x10_1) (vp_in_iff.mpr (by constructor <;> omega)) d_Mpg_checkText_19 ?_
        refine lv_topi (fun z227 ez227 => ?_)
        have lz227 := Int32.le_toInt z227
        have uz227 := Int32.toInt_lt z227
        have rz227 : z227.toInt = (na 14 x10_1.toNatClampNeg).toInt := (by rw [ez227])
        refine lv_bipush (v := 41) S.x S.b d_Mpg_checkText_20 (by decide) ?_
        refine lv_icmp_ne (tgt := 45) S.x S.b d_Mpg_checkText_22 (by decide) (fun c228 => ?_) (fun c228 => ?_)
        · have nc228 : ¬ z227.toInt = (41 : Int) := mt (i_eq (x := z227) (y := 41)).mpr c228
          refine lv_aload_n S.x S.b d_Mpg_checkText_45 rfl (lv_at hl 0 rfl) ?_
          refine px_get S k_Mpg hT hw 0 0 21 (v := .ref (r 21)) rfl rfl rfl (by decide) m10_7 d_Mpg_checkText_46 ?_
          refine lv_iload_n S.x S.b d_Mpg_checkText_49 rfl (lv_at hl 1 rfl) ?_
          refine px_iald S hT hw 0 17 (n := 2100) (f := (na 21)) rfl gp_21 (x := x10_1) (vp_in_iff.mpr (by constructor <;> omega)) d_Mpg_checkText_50 ?_
          refine lv_topi (fun z229 ez229 => ?_)
          have lz229 := Int32.le_toInt z229
          have uz229 := Int32.toInt_lt z229
          refine lv_istore_n (lv' := [(1, .int z229), (0, .ref h)]) S.x S.b d_Mpg_checkText_51 rfl hl (by decide) rfl (fun ls hl => ?_)
          refine lv_goto (tgt := 10) S.x S.b d_Mpg_checkText_52 (by decide) ?_
          exact ih10 cf_10 ca_10 md225 (wr_10 - wv226) z229 _ _ ls (show (cf_10 30).toInt = (cf 30).toInt from by first | exact k10_0 | omega) (show (cf_10 31).toInt = (cf 31).toInt from by first | exact k10_1 | omega) (show (cf_10 46).toInt = (cf 46).toInt from by first | exact k10_2 | omega) (show (cf_10 47).toInt = (cf 47).toInt from by first | exact k10_3 | omega) (show 0 ≤ (cf_10 38).toInt from by first | exact k10_4 | omega) (show 24 * (cf_10 38).toInt + (wr_10 - wv226) ≤ w from by first | with_reducible rfl | with_reducible assumption | omega) (show 0 ≤ md225 from by first | with_reducible rfl | with_reducible assumption | omega) (show md225 ≤ (pf 13).toInt from by first | with_reducible rfl | with_reducible assumption | omega) (show 0 ≤ (wr_10 - wv226) from by first | with_reducible rfl | with_reducible assumption | omega) (show WrV cf_10 (tf 6).toInt from hwr) (show FnT (tf 6).toInt na ca_10 (cf_10 38).toInt from (FnT.eq hft (show _ = (cf_10 38).toInt by omega))) (show FnP na ca_10 (cf_10 38).toInt from (FnP.eq hfp (by omega))) (show RvC ta (tf 6).toInt na ma0 d md225 (pf 13).toInt (wr_10 - wv226) z229 from (by rw [ez229]; exact hrc2)) (show FqT na ca_10 (pf 24) z229 (cf_10 38).toInt from (FqT.n0 (FqT_eq hqt (by omega)) (by omega) (by omega) ez229)) (show (pf 13).toInt - md225 < (n_10 : Int) from by first | with_reducible rfl | with_reducible assumption | omega) hw (lv_sub hl [1, 0] rfl)
        · have nc228 : z227.toInt = (41 : Int) := (i_eq (x := z227) (y := 41)).mp c228
          refine lv_aload_n S.x S.b d_Mpg_checkText_25 rfl (lv_at hl 0 rfl) ?_
          refine px_get S k_Mpg hT hw 0 0 39 (v := .ref (r 39)) rfl rfl rfl (by decide) m10_28 d_Mpg_checkText_26 ?_
          refine lv_aload_n S.x S.b d_Mpg_checkText_29 rfl (lv_at hl 0 rfl) ?_
          refine px_get S k_Mpg hT hw 0 0 38 (v := .int (cf_10 38)) rfl rfl rfl (by decide) m10_27 d_Mpg_checkText_30 ?_
          refine lv_iload_n S.x S.b d_Mpg_checkText_33 rfl (lv_at hl 1 rfl) ?_
          refine px_iast S hT hw 0 26 (n := 260) (f := (ca_10 39)) (x := (cf_10 38)) (y := x10_1) rfl gp_39 (vp_in_iff.mpr (by constructor <;> omega)) d_Mpg_checkText_34 (w' := wdP cs h r g tf ta pf na ma wa cf_10 (va_up ca_10 39 (upd (ca_10 39) (cf_10 38).toNatClampNeg x10_1)) ef ea xf xa) (ps' := [wdP cs h r g tf ta pf na ma wa cf_10 (va_up ca_10 39 (upd (ca_10 39) (cf_10 38).toNatClampNeg x10_1)) ef ea xf xa]) sp_39 rfl (fun H locs hw => ?_)
          obtain ⟨ca230, hu_ca230⟩ : ∃ y : Nat → Nat → Int32, y = va_up ca_10 39 (upd (ca_10 39) (cf_10 38).toNatClampNeg x10_1) := ⟨_, rfl⟩
          have hw : pw D A s.heap _ _ [wdP cs h r g tf ta pf na ma wa cf_10 ca230 ef ea xf xa] := (by rw [hu_ca230]; exact hw)
          have hfu := PcV.fu hpc (by omega)
          have htk9 := hfu.2.2.1
          have hu24 := hfu.2.2.2.2.1
          have hpw9 := FuV.prw hfu (by omega)
          have hft := FnT.nx hft hu_ca230 rfl (by omega) (by omega) ⟨⟨by omega, by omega⟩, htk9.1, htk9.2⟩
          have hfp := FnP.nx hfp hu_ca230 rfl (by omega) hpw9
          refine lv_aload_n S.x S.b d_Mpg_checkText_35 rfl (lv_at hl 0 rfl) ?_
          refine lv_dup S.x S.b d_Mpg_checkText_36 rfl ?_
          refine px_get S k_Mpg hT hw 0 0 38 (v := .int (cf_10 38)) rfl rfl rfl (by decide) m10_27 d_Mpg_checkText_37 ?_
          refine lv_iconst (v := 1) S.x S.b d_Mpg_checkText_40 (by decide) ?_
          refine lv_iadd S.x S.b d_Mpg_checkText_41 ?_
          have lr231 := Int32.le_toInt (cf_10 38)
          have ur231 := Int32.toInt_lt (cf_10 38)
          refine lv_topi (fun z232 ez232 => ?_)
          have tz232 : z232.toInt = ((cf_10 38).toInt + (1 : Int) + 2147483648) % 4294967296 - 2147483648 := by rw [ez232]; exact i_add (cf_10 38) 1
          have lz232 := Int32.le_toInt z232
          have uz232 := Int32.toInt_lt z232
          try replace tz232 : z232.toInt = (cf_10 38).toInt + (1 : Int) := by omega
          refine px_put S k_Mpg hT hw 0 0 38 rfl rfl (by decide) m10_27 rfl rfl rfl (Nat.le_of_ble_eq_true rfl) d_Mpg_checkText_42 (w' := wdP cs h r g tf ta pf na ma wa (upd cf_10 38 z232) ca230 ef ea xf xa) (ps' := [wdP cs h r g tf ta pf na ma wa (upd cf_10 38 z232) ca230 ef ea xf xa]) rfl rfl (fun H locs hw => ?_)
          refine lv_aload_n S.x S.b d_Mpg_checkText_45 rfl (lv_at hl 0 rfl) ?_
          refine px_get S k_Mpg hT hw 0 0 21 (v := .ref (r 21)) rfl rfl rfl (by decide) m10_7 d_Mpg_checkText_46 ?_
          refine lv_iload_n S.x S.b d_Mpg_checkText_49 rfl (lv_at hl 1 rfl) ?_
          refine px_iald S hT hw 0 17 (n := 2100) (f := (na 21)) rfl gp_21 (x := x10_1) (vp_in_iff.mpr (by constructor <;> omega)) d_Mpg_checkText_50 ?_
          refine lv_topi (fun z233 ez233 => ?_)
          have lz233 := Int32.le_toInt z233
          have uz233 := Int32.toInt_lt z233
          refine lv_istore_n (lv' := [(1, .int z233), (0, .ref h)]) S.x S.b d_Mpg_checkText_51 rfl hl (by decide) rfl (fun ls hl => ?_)
          refine lv_goto (tgt := 10) S.x S.b d_Mpg_checkText_52 (by decide) ?_
          exact ih10 (upd cf_10 38 z232) ca230 md225 (wr_10 - wv226) z233 _ _ ls (show (cf_10 30).toInt = (cf 30).toInt from by first | exact k10_0 | omega) (show (cf_10 31).toInt = (cf 31).toInt from by first | exact k10_1 | omega) (show (cf_10 46).toInt = (cf 46).toInt from by first | exact k10_2 | omega) (show (cf_10 47).toInt = (cf 47).toInt from by first | exact k10_3 | omega) (show 0 ≤ z232.toInt from by first | exact oz_b3b25f0e49 tz232 k10_4 | omega) (show 24 * z232.toInt + (wr_10 - wv226) ≤ w from by first | with_reducible rfl | with_reducible assumption | omega) (show 0 ≤ md225 from by first | with_reducible rfl | with_reducible assumption | omega) (show md225 ≤ (pf 13).toInt from by first | with_reducible rfl | with_reducible assumption | omega) (show 0 ≤ (wr_10 - wv226) from by first | with_reducible rfl | with_reducible assumption | omega) (show WrV (upd cf_10 38 z232) (tf 6).toInt from (WrV.u hwr (by decide) (by decide))) (show FnT (tf 6).toInt na ca230 z232.toInt from (FnT.eq hft (show _ = z232.toInt by omega))) (show FnP na ca230 z232.toInt from (FnP.eq hfp (by omega))) (show RvC ta (tf 6).toInt na ma0 d md225 (pf 13).toInt (wr_10 - wv226) z233 from (by rw [ez233]; exact hrc2)) (show FqT na ca230 (pf 24) z233 z232.toInt from (FqT.n1 (v := x10_1) hqt (by omega) (by omega) (by omega) ez233 hu_ca230 (by omega))) (show (pf 13).toInt - md225 < (n_10 : Int) from by first | with_reducible rfl | with_reducible assumption | omega) hw (lv_sub hl [1, 0] rfl)
  refine lv_aload_n S.x S.b d_Mpg_checkText_0 rfl (lv_at hl 0 rfl) ?_
  refine lv_iconst (v := 0) S.x S.b d_Mpg_checkText_1 (by decide) ?_
  refine px_put S k_Mpg hT hw 0 0 38 rfl rfl (by decide) m10_27 rfl rfl rfl (Nat.le_of_ble_eq_true rfl) d_Mpg_checkText_2 (w' := wdP cs h r g tf ta pf na ma wa (upd cf 38 0) ca ef ea xf xa) (ps' := [wdP cs h r g tf ta pf na ma wa (upd cf 38 0) ca ef ea xf xa]) rfl rfl (fun H locs hw => ?_)
  refine lv_aload_n S.x S.b d_Mpg_checkText_5 rfl (lv_at hl 0 rfl) ?_
  refine px_get S k_Mpg hT hw 0 0 24 (v := .int (pf 24)) rfl rfl rfl (by decide) m10_12 d_Mpg_checkText_6 ?_
  refine lv_istore_n (lv' := [(1, .int (pf 24)), (0, .ref h)]) S.x S.b d_Mpg_checkText_9 rfl hl (by decide) rfl (fun ls hl => ?_)
  exact J10 (((pf 13).toInt - 0).toNat + 1) (upd cf 38 0) ca 0 w (pf 24) _ _ ls (show (cf 30).toInt = (cf 30).toInt from rfl) (show (cf 31).toInt = (cf 31).toInt from rfl) (show (cf 46).toInt = (cf 46).toInt from rfl) (show (cf 47).toInt = (cf 47).toInt from rfl) (show 0 ≤ (0 : Int) from by first | decide | omega) (show 24 * (0 : Int) + w ≤ w from by first | exact oz_3754fbd6fc | omega) (show 0 ≤ 0 from by first | decide | omega) (show 0 ≤ (pf 13).toInt from by first | exact g0 | omega) (show 0 ≤ w from by first | exact hwp0 | omega) (show WrV (upd cf 38 0) (tf 6).toInt from (WrV.u hwr (by decide) (by decide))) (show FnT (tf 6).toInt na ca (0 : Int) from ⟨by first | exact oz_58caa455ab | omega, fun i9 h9 => absurd h9 (by omega)⟩) (show FnP na ca (0 : Int) from (fun i9 h9 => absurd h9 (by omega))) (show RvC ta (tf 6).toInt na ma0 d 0 (pf 13).toInt w (pf 24) from hrc) (show FqT na ca (pf 24) (pf 24) (0 : Int) from (fqt_0 rfl)) (show (pf 13).toInt - 0 < (((((pf 13).toInt - 0).toNat + 1 : Nat) : Int) : Int) from by first | exact oz_natlt | omega) hw (lv_sub hl [1, 0] rfl)
