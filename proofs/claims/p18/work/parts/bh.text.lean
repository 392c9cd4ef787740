theorem oz_69a583216a  : 1 ≤ (14 : Int) := by omega
theorem oz_41dc904c2d {n0 : Nat}  : 0 + 1 ≤ (6 * n0 + 40) := by omega
theorem oz_4220975ee0 {n0 : Nat}  : 8 + (3 + 11) + 0 ≤ (260 * n0 + 1500) := by omega
theorem oz_268b73b22f {a0 a1 : Int} (h0 : a0 = a1) (h1 : (200 : Int) < a1) : 0 ≤ a0 := by omega
theorem oz_a3718179ed {a0 a1 : Int} (h0 : a0 = a1) (h1 : a1 ≤ 260) : a0 ≤ 260 := by omega
theorem oz_31d6e22d67 {a0 a1 : Int} (h0 : a0 = a1) (h1 : a1 ≤ 1090) : a0 ≤ 1090 := by omega
theorem oz_b799c596aa {a0 a1 a2 a3 : Int} (h0 : a0 = a2) (h1 : a1 = a3) (h2 : a2 ≤ 4 * a3) : a0 ≤ 4 * a1 := by omega
theorem oz_f53570ab19 {a0 : Int} (h0 : a0 ≤ (8192 : Int)) : a0 ≤ 8192 := by omega
theorem oz_835a9fd040 {a0 : Int} (h0 : ¬ (200 : Int) < a0) : a0 ≤ 200 := by omega
theorem oz_c4b1918348 {a0 a1 : Int} (h0 : a0 = a1) (h1 : ¬ (200 : Int) < a1) : a0 ≤ 260 := by omega
theorem oz_4c8369a87f {a0 a1 : Int} (h0 : a0 = a1) (h1 : ¬ (200 : Int) < a1) : a0 ≤ 200 := by omega
theorem oz_c11db7eac0  : 1 ≤ (13 : Int) := by omega
theorem oz_d8df35b42d {a0 a1 a2 a3 : Int} (h0 : a1 = a2) (h1 : a0 = a3 + 1) (h2 : ¬ a2 ≤ a3) : a0 ≤ a1 := by omega
theorem oz_489d83cefd {a0 a1 a3 a4 : Int} {n2 : Nat} (h0 : a3 - a4 < ((n2 + 1 : Nat) : Int)) (h1 : a0 = a3) (h2 : a1 = a4 + 1) : a0 - a1 < (n2 : Int) := by omega
theorem oz_4096a10e2d {n0 : Nat}  : 7 + 1 ≤ (6 * n0 + 40) := by omega
theorem oz_f949fa07e8 {n0 : Nat}  : 8 + (4 + 11) + 260 ≤ (260 * n0 + 1500) := by omega
theorem oz_ab7418934e {a0 a1 a2 : Int} (h0 : 6 * a0 + a1 ≤ a2) (h1 : a2 ≤ 6200) (h2 : 0 ≤ a1) : a0 ≤ 1090 := by omega
theorem oz_cbd7d48f1f {a0 a1 : Int} (h0 : a0 = a1) (h1 : 0 ≤ a1) : (0 : Int) ≤ a0 := by omega
theorem oz_dfb3d59e54  : 1 ≤ (12 : Int) := by omega
theorem oz_a03d3c3de9 {a0 a1 a2 a3 : Int} (h0 : a0 = a1) (h1 : 6 * a1 + a2 ≤ a3) (h2 : a3 ≤ 6200) (h3 : 0 ≤ a2) : a0 ≤ 1090 := by omega
theorem oz_1cdf1afdbd {a0 a1 a2 a3 : Int} (h0 : a0 = a1) (h1 : a1 = a2) (h2 : a3 ≤ a2) (h3 : 0 ≤ a3) : (0 : Int) ≤ a0 := by omega
theorem oz_3678a32be9 {a0 a1 : Int} (h0 : a1 ≤ 4096 * a0) (h1 : 0 ≤ a1) : (0 : Int) ≤ 4 + 4096 * a0 := by omega
theorem oz_c42be22894 {n0 : Nat}  : (4 * n0 + 22) + 1 ≤ (6 * n0 + 40) := by omega
theorem oz_d581d7c3e8 {n0 : Nat}  : 8 + (5 + 11) + (200 * n0 + 780) ≤ (260 * n0 + 1500) := by omega
theorem oz_fb9374997e {a0 a1 a2 a3 a4 : Int} (h0 : 6 * a4 + a1 ≤ a3) (h1 : 6 * a0 ≤ 6 * a4 + (a2)) : 6 * a0 + (a1 - a2) ≤ a3 := by omega
theorem oz_5608f3e637 {a0 a1 a2 a3 a4 a5 : Int} (h0 : a1 - (0 : Int) ≤ 4096 * (a0 - a2)) (h1 : 0 ≤ a3) (h2 : a3 ≤ 4 * a4) (h3 : a4 ≤ 4096 * a2) (h4 : a3 ≤ a5) (h5 : a5 - a3 ≤ 4 * (a1 - (0 : Int))) : 0 ≤ a0 := by omega
theorem oz_a5717c4bb3 {a0 a1 : Int} (h0 : a0 = a1) (h1 : a1 = -1) : a0 = -1 := by omega
theorem oz_b9606414b9 {a0 a1 a2 a3 a4 a5 : Int} (h0 : a0 - a2 ≤ 4 * (a3 - (0 : Int))) (h1 : a1 = a4 + a3) (h2 : a2 ≤ 4 * a5) (h3 : a4 = a5) : a0 ≤ 4 * a1 := by omega
theorem oz_715b55e286 {a0 a1 a2 a3 a4 a5 : Int} (h0 : a0 = a1 + a2) (h1 : a1 = a3) (h2 : a4 - a5 ≤ 4 * (a2 - (0 : Int))) (h3 : 0 ≤ a5) (h4 : a5 ≤ 4 * a3) (h5 : a5 ≤ a4) : 0 ≤ a0 := by omega
theorem oz_22b25d5c25 {a0 a1 a2 a3 a4 a5 : Int} (h0 : a2 - (0 : Int) ≤ 4096 * (a1 - a3)) (h1 : a0 = a4 + a2) (h2 : a5 ≤ 4096 * a3) (h3 : a4 = a5) : a0 ≤ 4096 * a1 := by omega
theorem oz_b0666eb655 {a0 a1 a2 a3 a4 : Int} (h0 : 6 * a3 + a0 ≤ a2) (h1 : 6 * a4 ≤ 6 * a3 + (a1)) (h2 : 0 ≤ a3) (h3 : a3 ≤ a4) : (a0 - a1) ≤ a2 := by omega
theorem oz_6fee9c7465 {a0 a1 a2 : Int} (h0 : 6 * a0 + a1 ≤ a2) (h1 : a2 ≤ 6200) (h2 : 0 ≤ a1) : 6 * a0 ≤ 6540 := by omega
theorem oz_09af4054b1 {n0 : Nat}  : (4 * n0 + 20) + 1 ≤ (6 * n0 + 40) := by omega
theorem oz_4b9caa71e4 {n0 : Nat}  : 8 + (4 + 11) + (200 * n0 + 720) ≤ (260 * n0 + 1500) := by omega
theorem oz_66631b3390 {a0 a1 a2 a3 a4 a5 a6 : Int} (h0 : 6 * a4 + a1 ≤ a3) (h1 : a0 = a4) (h2 : 6 * a5 ≤ 6 * a6 + (a2)) (h3 : a6 ≤ a5) : 6 * a0 + (a1 - a2) ≤ a3 := by omega
theorem oz_f9300db2d1 {a0 a1 a2 a3 : Int} (h0 : a1 = a2) (h1 : a0 = a3) (h2 : a3 ≤ 4 * a2) : a0 ≤ 4 * a1 := by omega
theorem oz_0778144fd0 {a0 a1 a2 a3 : Int} (h0 : a0 = a2) (h1 : a1 = a3) (h2 : a2 ≤ 4096 * a3) : a0 ≤ 4096 * a1 := by omega
theorem oz_63c5da3e37 {a0 a1 a2 a3 a4 a5 : Int} (h0 : 6 * a3 + a0 ≤ a2) (h1 : 6 * a4 ≤ 6 * a5 + (a1)) (h2 : 0 ≤ a3) (h3 : a5 ≤ a4) : (a0 - a1) ≤ a2 := by omega
theorem oz_6673da8225 {n0 : Nat}  : (6 * n0 + 30) + 1 ≤ (6 * n0 + 40) := by omega
theorem oz_153672599c {n0 : Nat}  : 8 + (9 + 11) + (260 * n0 + 1200) ≤ (260 * n0 + 1500) := by omega
theorem oz_e39ac9ea3f {a0 a1 a2 a3 a4 a5 a6 : Int} (h0 : 6 * a4 + a1 ≤ a3) (h1 : a0 = a4) (h2 : 6 * a5 ≤ 6 * a6 + a2) (h3 : a6 ≤ a5) : 6 * a0 + (a1 - a2) ≤ a3 := by omega
theorem oz_09655d0a70 {a0 a1 a2 a3 a4 : Int} (h0 : 6 * a4 + a1 ≤ a3) (h1 : 6 * a0 ≤ 6 * a4 + a2) : 6 * a0 + (a1 - a2) ≤ a3 := by omega
theorem oz_d83d6a23a0 {a0 a1 a2 a3 : Int} (h0 : a0 = a2) (h1 : a3 ≤ a1) (h2 : a2 ≤ 4096 * a3) : a0 ≤ 4096 * a1 := by omega
theorem oz_24514a91eb {a0 a1 a2 a3 a4 : Int} (h0 : 6 * a3 + a0 ≤ a2) (h1 : 6 * a4 ≤ 6 * a3 + a1) (h2 : 0 ≤ a3) (h3 : a3 ≤ a4) : (a0 - a1) ≤ a2 := by omega
theorem oz_f48bf4be2a {a0 : Int}  : 6 * (0 : Int) + a0 ≤ a0 := by omega
theorem oz_952297799d  : (0 : Int) ≤ 4096 * (0 : Int) := by omega
theorem oz_adb5b99fec  : (0 : Int) ≤ 1100 := by omega
theorem oz_3754fbd6fc {a0 : Int}  : 24 * (0 : Int) + a0 ≤ a0 := by omega
theorem oz_58caa455ab  : (0 : Int) ≤ 260 := by omega
theorem m10_32 : Cond.fieldLink "HomeSystemModel$Program" 693 "HomeSystemModel$Program" "textWords" "I" ∈ AL := AL_10 (List.mem_of_getElem? (i := 32) rfl) rfl
theorem m13_70 : Cond.methodLink "HomeSystemModel$Program" 702 ⟨"HomeSystemModel$Program", "hasMain", "()Z"⟩ ∈ AL := AL_13 (List.mem_of_getElem? (i := 70) rfl) rfl
theorem m13_73 : Cond.code ⟨"HomeSystemModel$Program", "hasMain", "()Z"⟩ prog_16_method_103_code 4 (Option.some FieldType.boolean) ∈ AL := AL_13 (List.mem_of_getElem? (i := 73) rfl) rfl
theorem ms_13_15 : Cond.selects "HomeSystemModel$Program" ⟨"HomeSystemModel$Program", "hasMain", "()Z"⟩ ⟨"HomeSystemModel$Program", "hasMain", "()Z"⟩ ∈ AL := AL_p (q := (⟨"HomeSystemModel$Program", "hasMain", "()Z"⟩, 69)) (by unfold lw_privs; exact List.mem_append_right _ (List.mem_append_right _ (List.mem_append_right _ (List.mem_append_right _ (List.mem_append_right _ (List.mem_append_right _ (List.mem_append_right _ (List.mem_append_right _ (List.mem_append_right _ (List.mem_append_right _ (List.mem_append_right _ (List.mem_append_right _ (List.mem_append_left _ (List.mem_of_getElem? (i := 15) rfl))))))))))))))
theorem m13_72 : Cond.instanceMethod ⟨"HomeSystemModel$Program", "hasMain", "()Z"⟩ ∈ AL := AL_13 (List.mem_of_getElem? (i := 72) rfl) rfl
theorem m10_51 : Cond.fieldLink "HomeSystemModel$Program" 690 "HomeSystemModel$Program" "textCells" "I" ∈ AL := AL_10 (List.mem_of_getElem? (i := 51) rfl) rfl
theorem m13_66 : Cond.methodLink "HomeSystemModel$Program" 699 ⟨"HomeSystemModel$Program", "checkEnum", "(I)V"⟩ ∈ AL := AL_13 (List.mem_of_getElem? (i := 66) rfl) rfl
theorem m13_69 : Cond.code ⟨"HomeSystemModel$Program", "checkEnum", "(I)V"⟩ prog_16_method_102_code 4 (Option.none : Option Jvm.ClassFile.FieldType) ∈ AL := AL_13 (List.mem_of_getElem? (i := 69) rfl) rfl
theorem ms_13_14 : Cond.selects "HomeSystemModel$Program" ⟨"HomeSystemModel$Program", "checkEnum", "(I)V"⟩ ⟨"HomeSystemModel$Program", "checkEnum", "(I)V"⟩ ∈ AL := AL_p (q := (⟨"HomeSystemModel$Program", "checkEnum", "(I)V"⟩, 69)) (by unfold lw_privs; exact List.mem_append_right _ (List.mem_append_right _ (List.mem_append_right _ (List.mem_append_right _ (List.mem_append_right _ (List.mem_append_right _ (List.mem_append_right _ (List.mem_append_right _ (List.mem_append_right _ (List.mem_append_right _ (List.mem_append_right _ (List.mem_append_right _ (List.mem_append_left _ (List.mem_of_getElem? (i := 14) rfl))))))))))))))
theorem m13_68 : Cond.instanceMethod ⟨"HomeSystemModel$Program", "checkEnum", "(I)V"⟩ ∈ AL := AL_13 (List.mem_of_getElem? (i := 68) rfl) rfl
theorem m12_150 : Cond.methodLink "HomeSystemModel$Program" 696 ⟨"HomeSystemModel$Program", "checkFunction", "(I)V"⟩ ∈ AL := AL_12 (List.mem_of_getElem? (i := 150) rfl) rfl
theorem m12_153 : Cond.code ⟨"HomeSystemModel$Program", "checkFunction", "(I)V"⟩ prog_16_method_97_code 9 (Option.none : Option Jvm.ClassFile.FieldType) ∈ AL := AL_12 (List.mem_of_getElem? (i := 153) rfl) rfl
theorem ms_11_7 : Cond.selects "HomeSystemModel$Program" ⟨"HomeSystemModel$Program", "checkFunction", "(I)V"⟩ ⟨"HomeSystemModel$Program", "checkFunction", "(I)V"⟩ ∈ AL := AL_p (q := (⟨"HomeSystemModel$Program", "checkFunction", "(I)V"⟩, 69)) (by unfold lw_privs; exact List.mem_append_right _ (List.mem_append_right _ (List.mem_append_right _ (List.mem_append_right _ (List.mem_append_right _ (List.mem_append_right _ (List.mem_append_right _ (List.mem_append_right _ (List.mem_append_right _ (List.mem_append_right _ (List.mem_append_left _ (List.mem_of_getElem? (i := 7) rfl))))))))))))
theorem m12_152 : Cond.instanceMethod ⟨"HomeSystemModel$Program", "checkFunction", "(I)V"⟩ ∈ AL := AL_12 (List.mem_of_getElem? (i := 152) rfl) rfl
abbrev b_Mpg_checkText : ByteArray := prog_16_method_104_code
def y_Mpg_checkText : MethodName := ⟨"HomeSystemModel$Program", "checkText", "()V"⟩
theorem d_Mpg_checkText_0 : decode b_Mpg_checkText 0 = .ok (.aload_n 0, 1) := by decide +kernel
theorem d_Mpg_checkText_1 : decode b_Mpg_checkText 1 = .ok (.iconst 0, 1) := by decide +kernel
theorem d_Mpg_checkText_2 : decode b_Mpg_checkText 2 = .ok (.putfield 535, 3) := by decide +kernel
theorem d_Mpg_checkText_5 : decode b_Mpg_checkText 5 = .ok (.aload_n 0, 1) := by decide +kernel
theorem d_Mpg_checkText_6 : decode b_Mpg_checkText 6 = .ok (.getfield 500, 3) := by decide +kernel
theorem d_Mpg_checkText_9 : decode b_Mpg_checkText 9 = .ok (.istore_n 1, 1) := by decide +kernel
theorem d_Mpg_checkText_10 : decode b_Mpg_checkText 10 = .ok (.iload_n 1, 1) := by decide +kernel
theorem d_Mpg_checkText_11 : decode b_Mpg_checkText 11 = .ok (.ifCond .lt 44, 3) := by decide +kernel
theorem d_Mpg_checkText_14 : decode b_Mpg_checkText 14 = .ok (.aload_n 0, 1) := by decide +kernel
theorem d_Mpg_checkText_15 : decode b_Mpg_checkText 15 = .ok (.getfield 207, 3) := by decide +kernel
theorem d_Mpg_checkText_18 : decode b_Mpg_checkText 18 = .ok (.iload_n 1, 1) := by decide +kernel
theorem d_Mpg_checkText_19 : decode b_Mpg_checkText 19 = .ok (.baload, 1) := by decide +kernel
theorem d_Mpg_checkText_20 : decode b_Mpg_checkText 20 = .ok (.bipush 41, 2) := by decide +kernel
theorem d_Mpg_checkText_22 : decode b_Mpg_checkText 22 = .ok (.if_icmp .ne 23, 3) := by decide +kernel
theorem d_Mpg_checkText_25 : decode b_Mpg_checkText 25 = .ok (.aload_n 0, 1) := by decide +kernel
theorem d_Mpg_checkText_26 : decode b_Mpg_checkText 26 = .ok (.getfield 255, 3) := by decide +kernel
theorem d_Mpg_checkText_29 : decode b_Mpg_checkText 29 = .ok (.aload_n 0, 1) := by decide +kernel
theorem d_Mpg_checkText_30 : decode b_Mpg_checkText 30 = .ok (.getfield 535, 3) := by decide +kernel
theorem d_Mpg_checkText_33 : decode b_Mpg_checkText 33 = .ok (.iload_n 1, 1) := by decide +kernel
theorem d_Mpg_checkText_34 : decode b_Mpg_checkText 34 = .ok (.iastore, 1) := by decide +kernel
theorem d_Mpg_checkText_35 : decode b_Mpg_checkText 35 = .ok (.aload_n 0, 1) := by decide +kernel
theorem d_Mpg_checkText_36 : decode b_Mpg_checkText 36 = .ok (.dup, 1) := by decide +kernel
theorem d_Mpg_checkText_37 : decode b_Mpg_checkText 37 = .ok (.getfield 535, 3) := by decide +kernel
theorem d_Mpg_checkText_40 : decode b_Mpg_checkText 40 = .ok (.iconst 1, 1) := by decide +kernel
theorem d_Mpg_checkText_41 : decode b_Mpg_checkText 41 = .ok (.iadd, 1) := by decide +kernel
theorem d_Mpg_checkText_42 : decode b_Mpg_checkText 42 = .ok (.putfield 535, 3) := by decide +kernel
theorem d_Mpg_checkText_45 : decode b_Mpg_checkText 45 = .ok (.aload_n 0, 1) := by decide +kernel
theorem d_Mpg_checkText_46 : decode b_Mpg_checkText 46 = .ok (.getfield 228, 3) := by decide +kernel
theorem d_Mpg_checkText_49 : decode b_Mpg_checkText 49 = .ok (.iload_n 1, 1) := by decide +kernel
theorem d_Mpg_checkText_50 : decode b_Mpg_checkText 50 = .ok (.iaload, 1) := by decide +kernel
theorem d_Mpg_checkText_51 : decode b_Mpg_checkText 51 = .ok (.istore_n 1, 1) := by decide +kernel
theorem d_Mpg_checkText_52 : decode b_Mpg_checkText 52 = .ok (.goto (-42), 3) := by decide +kernel
theorem d_Mpg_checkText_55 : decode b_Mpg_checkText 55 = .ok (.aload_n 0, 1) := by decide +kernel
theorem d_Mpg_checkText_56 : decode b_Mpg_checkText 56 = .ok (.iconst 0, 1) := by decide +kernel
theorem d_Mpg_checkText_57 : decode b_Mpg_checkText 57 = .ok (.putfield 528, 3) := by decide +kernel
theorem d_Mpg_checkText_60 : decode b_Mpg_checkText 60 = .ok (.aload_n 0, 1) := by decide +kernel
theorem d_Mpg_checkText_61 : decode b_Mpg_checkText 61 = .ok (.iconst 0, 1) := by decide +kernel
theorem d_Mpg_checkText_62 : decode b_Mpg_checkText 62 = .ok (.putfield 556, 3) := by decide +kernel
theorem d_Mpg_checkText_65 : decode b_Mpg_checkText 65 = .ok (.aload_n 0, 1) := by decide +kernel
theorem d_Mpg_checkText_66 : decode b_Mpg_checkText 66 = .ok (.iconst 0, 1) := by decide +kernel
theorem d_Mpg_checkText_67 : decode b_Mpg_checkText 67 = .ok (.putfield 667, 3) := by decide +kernel
theorem d_Mpg_checkText_70 : decode b_Mpg_checkText 70 = .ok (.aload_n 0, 1) := by decide +kernel
theorem d_Mpg_checkText_71 : decode b_Mpg_checkText 71 = .ok (.iconst 0, 1) := by decide +kernel
theorem d_Mpg_checkText_72 : decode b_Mpg_checkText 72 = .ok (.putfield 670, 3) := by decide +kernel
theorem d_Mpg_checkText_75 : decode b_Mpg_checkText 75 = .ok (.aload_n 0, 1) := by decide +kernel
theorem d_Mpg_checkText_76 : decode b_Mpg_checkText 76 = .ok (.iconst (-1), 1) := by decide +kernel
theorem d_Mpg_checkText_77 : decode b_Mpg_checkText 77 = .ok (.putfield 550, 3) := by decide +kernel
theorem d_Mpg_checkText_80 : decode b_Mpg_checkText 80 = .ok (.iconst 0, 1) := by decide +kernel
theorem d_Mpg_checkText_81 : decode b_Mpg_checkText 81 = .ok (.istore_n 1, 1) := by decide +kernel
theorem d_Mpg_checkText_82 : decode b_Mpg_checkText 82 = .ok (.aload_n 0, 1) := by decide +kernel
theorem d_Mpg_checkText_83 : decode b_Mpg_checkText 83 = .ok (.iconst 0, 1) := by decide +kernel
theorem d_Mpg_checkText_84 : decode b_Mpg_checkText 84 = .ok (.putfield 547, 3) := by decide +kernel
theorem d_Mpg_checkText_87 : decode b_Mpg_checkText 87 = .ok (.aload_n 0, 1) := by decide +kernel
theorem d_Mpg_checkText_88 : decode b_Mpg_checkText 88 = .ok (.iconst 0, 1) := by decide +kernel
theorem d_Mpg_checkText_89 : decode b_Mpg_checkText 89 = .ok (.putfield 690, 3) := by decide +kernel
theorem d_Mpg_checkText_92 : decode b_Mpg_checkText 92 = .ok (.aload_n 0, 1) := by decide +kernel
theorem d_Mpg_checkText_93 : decode b_Mpg_checkText 93 = .ok (.iconst 0, 1) := by decide +kernel
theorem d_Mpg_checkText_94 : decode b_Mpg_checkText 94 = .ok (.putfield 693, 3) := by decide +kernel
theorem d_Mpg_checkText_97 : decode b_Mpg_checkText 97 = .ok (.aload_n 0, 1) := by decide +kernel
theorem d_Mpg_checkText_98 : decode b_Mpg_checkText 98 = .ok (.getfield 500, 3) := by decide +kernel
theorem d_Mpg_checkText_101 : decode b_Mpg_checkText 101 = .ok (.istore_n 2, 1) := by decide +kernel
theorem d_Mpg_checkText_102 : decode b_Mpg_checkText 102 = .ok (.iload_n 2, 1) := by decide +kernel
theorem d_Mpg_checkText_103 : decode b_Mpg_checkText 103 = .ok (.ifCond .lt 94, 3) := by decide +kernel
theorem d_Mpg_checkText_106 : decode b_Mpg_checkText 106 = .ok (.aload_n 0, 1) := by decide +kernel
theorem d_Mpg_checkText_107 : decode b_Mpg_checkText 107 = .ok (.getfield 207, 3) := by decide +kernel
theorem d_Mpg_checkText_110 : decode b_Mpg_checkText 110 = .ok (.iload_n 2, 1) := by decide +kernel
theorem d_Mpg_checkText_111 : decode b_Mpg_checkText 111 = .ok (.baload, 1) := by decide +kernel
theorem d_Mpg_checkText_112 : decode b_Mpg_checkText 112 = .ok (.bipush 41, 2) := by decide +kernel
theorem d_Mpg_checkText_114 : decode b_Mpg_checkText 114 = .ok (.if_icmp .ne 14, 3) := by decide +kernel
theorem d_Mpg_checkText_117 : decode b_Mpg_checkText 117 = .ok (.aload_n 0, 1) := by decide +kernel
theorem d_Mpg_checkText_118 : decode b_Mpg_checkText 118 = .ok (.iload_n 1, 1) := by decide +kernel
theorem d_Mpg_checkText_119 : decode b_Mpg_checkText 119 = .ok (.invokevirtual 696, 3) := by decide +kernel
theorem d_Mpg_checkText_122 : decode b_Mpg_checkText 122 = .ok (.iinc 1 1, 3) := by decide +kernel
theorem d_Mpg_checkText_125 : decode b_Mpg_checkText 125 = .ok (.goto 62, 3) := by decide +kernel
theorem d_Mpg_checkText_128 : decode b_Mpg_checkText 128 = .ok (.aload_n 0, 1) := by decide +kernel
theorem d_Mpg_checkText_129 : decode b_Mpg_checkText 129 = .ok (.getfield 207, 3) := by decide +kernel
theorem d_Mpg_checkText_132 : decode b_Mpg_checkText 132 = .ok (.iload_n 2, 1) := by decide +kernel
theorem d_Mpg_checkText_133 : decode b_Mpg_checkText 133 = .ok (.baload, 1) := by decide +kernel
theorem d_Mpg_checkText_134 : decode b_Mpg_checkText 134 = .ok (.bipush 43, 2) := by decide +kernel
theorem d_Mpg_checkText_136 : decode b_Mpg_checkText 136 = .ok (.if_icmp .ne 11, 3) := by decide +kernel
theorem d_Mpg_checkText_139 : decode b_Mpg_checkText 139 = .ok (.aload_n 0, 1) := by decide +kernel
theorem d_Mpg_checkText_140 : decode b_Mpg_checkText 140 = .ok (.iload_n 2, 1) := by decide +kernel
theorem d_Mpg_checkText_141 : decode b_Mpg_checkText 141 = .ok (.invokevirtual 699, 3) := by decide +kernel
theorem d_Mpg_checkText_144 : decode b_Mpg_checkText 144 = .ok (.goto 43, 3) := by decide +kernel
theorem d_Mpg_checkText_147 : decode b_Mpg_checkText 147 = .ok (.aload_n 0, 1) := by decide +kernel
theorem d_Mpg_checkText_148 : decode b_Mpg_checkText 148 = .ok (.iconst 0, 1) := by decide +kernel
theorem d_Mpg_checkText_149 : decode b_Mpg_checkText 149 = .ok (.putfield 621, 3) := by decide +kernel
theorem d_Mpg_checkText_152 : decode b_Mpg_checkText 152 = .ok (.aload_n 0, 1) := by decide +kernel
theorem d_Mpg_checkText_153 : decode b_Mpg_checkText 153 = .ok (.aload_n 0, 1) := by decide +kernel
theorem d_Mpg_checkText_154 : decode b_Mpg_checkText 154 = .ok (.getfield 690, 3) := by decide +kernel
theorem d_Mpg_checkText_157 : decode b_Mpg_checkText 157 = .ok (.putfield 553, 3) := by decide +kernel
theorem d_Mpg_checkText_160 : decode b_Mpg_checkText 160 = .ok (.aload_n 0, 1) := by decide +kernel
theorem d_Mpg_checkText_161 : decode b_Mpg_checkText 161 = .ok (.iload_n 2, 1) := by decide +kernel
theorem d_Mpg_checkText_162 : decode b_Mpg_checkText 162 = .ok (.iconst 1, 1) := by decide +kernel
theorem d_Mpg_checkText_163 : decode b_Mpg_checkText 163 = .ok (.invokevirtual 651, 3) := by decide +kernel
theorem d_Mpg_checkText_166 : decode b_Mpg_checkText 166 = .ok (.aload_n 0, 1) := by decide +kernel
theorem d_Mpg_checkText_167 : decode b_Mpg_checkText 167 = .ok (.aload_n 0, 1) := by decide +kernel
theorem d_Mpg_checkText_168 : decode b_Mpg_checkText 168 = .ok (.getfield 553, 3) := by decide +kernel
theorem d_Mpg_checkText_171 : decode b_Mpg_checkText 171 = .ok (.putfield 690, 3) := by decide +kernel
theorem d_Mpg_checkText_174 : decode b_Mpg_checkText 174 = .ok (.aload_n 0, 1) := by decide +kernel
theorem d_Mpg_checkText_175 : decode b_Mpg_checkText 175 = .ok (.aload_n 0, 1) := by decide +kernel
theorem d_Mpg_checkText_176 : decode b_Mpg_checkText 176 = .ok (.getfield 693, 3) := by decide +kernel
theorem d_Mpg_checkText_179 : decode b_Mpg_checkText 179 = .ok (.aload_n 0, 1) := by decide +kernel
theorem d_Mpg_checkText_180 : decode b_Mpg_checkText 180 = .ok (.getfield 621, 3) := by decide +kernel
theorem d_Mpg_checkText_183 : decode b_Mpg_checkText 183 = .ok (.iadd, 1) := by decide +kernel
theorem d_Mpg_checkText_184 : decode b_Mpg_checkText 184 = .ok (.putfield 693, 3) := by decide +kernel
theorem d_Mpg_checkText_187 : decode b_Mpg_checkText 187 = .ok (.aload_n 0, 1) := by decide +kernel
theorem d_Mpg_checkText_188 : decode b_Mpg_checkText 188 = .ok (.getfield 228, 3) := by decide +kernel
theorem d_Mpg_checkText_191 : decode b_Mpg_checkText 191 = .ok (.iload_n 2, 1) := by decide +kernel
theorem d_Mpg_checkText_192 : decode b_Mpg_checkText 192 = .ok (.iaload, 1) := by decide +kernel
theorem d_Mpg_checkText_193 : decode b_Mpg_checkText 193 = .ok (.istore_n 2, 1) := by decide +kernel
theorem d_Mpg_checkText_194 : decode b_Mpg_checkText 194 = .ok (.goto (-92), 3) := by decide +kernel
theorem d_Mpg_checkText_197 : decode b_Mpg_checkText 197 = .ok (.aload_n 0, 1) := by decide +kernel
theorem d_Mpg_checkText_198 : decode b_Mpg_checkText 198 = .ok (.invokevirtual 702, 3) := by decide +kernel
theorem d_Mpg_checkText_201 : decode b_Mpg_checkText 201 = .ok (.ifCond .ne 15, 3) := by decide +kernel
theorem d_Mpg_checkText_204 : decode b_Mpg_checkText 204 = .ok (.aload_n 0, 1) := by decide +kernel
theorem d_Mpg_checkText_205 : decode b_Mpg_checkText 205 = .ok (.bipush 12, 2) := by decide +kernel
theorem d_Mpg_checkText_207 : decode b_Mpg_checkText 207 = .ok (.aload_n 0, 1) := by decide +kernel
theorem d_Mpg_checkText_208 : decode b_Mpg_checkText 208 = .ok (.getfield 304, 3) := by decide +kernel
theorem d_Mpg_checkText_211 : decode b_Mpg_checkText 211 = .ok (.iconst 1, 1) := by decide +kernel
theorem d_Mpg_checkText_212 : decode b_Mpg_checkText 212 = .ok (.isub, 1) := by decide +kernel
theorem d_Mpg_checkText_213 : decode b_Mpg_checkText 213 = .ok (.invokevirtual 565, 3) := by decide +kernel
theorem d_Mpg_checkText_216 : decode b_Mpg_checkText 216 = .ok (.iconst 0, 1) := by decide +kernel
theorem d_Mpg_checkText_217 : decode b_Mpg_checkText 217 = .ok (.istore_n 2, 1) := by decide +kernel
theorem d_Mpg_checkText_218 : decode b_Mpg_checkText 218 = .ok (.iload_n 2, 1) := by decide +kernel
theorem d_Mpg_checkText_219 : decode b_Mpg_checkText 219 = .ok (.aload_n 0, 1) := by decide +kernel
theorem d_Mpg_checkText_220 : decode b_Mpg_checkText 220 = .ok (.getfield 535, 3) := by decide +kernel
theorem d_Mpg_checkText_223 : decode b_Mpg_checkText 223 = .ok (.if_icmp .ge 33, 3) := by decide +kernel
theorem d_Mpg_checkText_226 : decode b_Mpg_checkText 226 = .ok (.aload_n 0, 1) := by decide +kernel
theorem d_Mpg_checkText_227 : decode b_Mpg_checkText 227 = .ok (.getfield 258, 3) := by decide +kernel
theorem d_Mpg_checkText_230 : decode b_Mpg_checkText 230 = .ok (.iload_n 2, 1) := by decide +kernel
theorem d_Mpg_checkText_231 : decode b_Mpg_checkText 231 = .ok (.iaload, 1) := by decide +kernel
theorem d_Mpg_checkText_232 : decode b_Mpg_checkText 232 = .ok (.sipush 8192, 3) := by decide +kernel
theorem d_Mpg_checkText_235 : decode b_Mpg_checkText 235 = .ok (.if_icmp .le 15, 3) := by decide +kernel
theorem d_Mpg_checkText_238 : decode b_Mpg_checkText 238 = .ok (.aload_n 0, 1) := by decide +kernel
theorem d_Mpg_checkText_239 : decode b_Mpg_checkText 239 = .ok (.bipush 13, 2) := by decide +kernel
theorem d_Mpg_checkText_241 : decode b_Mpg_checkText 241 = .ok (.aload_n 0, 1) := by decide +kernel
theorem d_Mpg_checkText_242 : decode b_Mpg_checkText 242 = .ok (.getfield 304, 3) := by decide +kernel
theorem d_Mpg_checkText_245 : decode b_Mpg_checkText 245 = .ok (.iconst 1, 1) := by decide +kernel
theorem d_Mpg_checkText_246 : decode b_Mpg_checkText 246 = .ok (.isub, 1) := by decide +kernel
theorem d_Mpg_checkText_247 : decode b_Mpg_checkText 247 = .ok (.invokevirtual 565, 3) := by decide +kernel
theorem d_Mpg_checkText_250 : decode b_Mpg_checkText 250 = .ok (.iinc 2 1, 3) := by decide +kernel
theorem d_Mpg_checkText_253 : decode b_Mpg_checkText 253 = .ok (.goto (-35), 3) := by decide +kernel
theorem d_Mpg_checkText_256 : decode b_Mpg_checkText 256 = .ok (.aload_n 0, 1) := by decide +kernel
theorem d_Mpg_checkText_257 : decode b_Mpg_checkText 257 = .ok (.getfield 535, 3) := by decide +kernel
theorem d_Mpg_checkText_260 : decode b_Mpg_checkText 260 = .ok (.sipush 200, 3) := by decide +kernel
theorem d_Mpg_checkText_263 : decode b_Mpg_checkText 263 = .ok (.if_icmp .gt 13, 3) := by decide +kernel
theorem d_Mpg_checkText_266 : decode b_Mpg_checkText 266 = .ok (.aload_n 0, 1) := by decide +kernel
theorem d_Mpg_checkText_267 : decode b_Mpg_checkText 267 = .ok (.getfield 693, 3) := by decide +kernel
theorem d_Mpg_checkText_270 : decode b_Mpg_checkText 270 = .ok (.sipush 8192, 3) := by decide +kernel
theorem d_Mpg_checkText_273 : decode b_Mpg_checkText 273 = .ok (.if_icmp .le 15, 3) := by decide +kernel
theorem d_Mpg_checkText_276 : decode b_Mpg_checkText 276 = .ok (.aload_n 0, 1) := by decide +kernel
theorem d_Mpg_checkText_277 : decode b_Mpg_checkText 277 = .ok (.bipush 14, 2) := by decide +kernel
theorem d_Mpg_checkText_279 : decode b_Mpg_checkText 279 = .ok (.aload_n 0, 1) := by decide +kernel
theorem d_Mpg_checkText_280 : decode b_Mpg_checkText 280 = .ok (.getfield 304, 3) := by decide +kernel
theorem d_Mpg_checkText_283 : decode b_Mpg_checkText 283 = .ok (.iconst 1, 1) := by decide +kernel
theorem d_Mpg_checkText_284 : decode b_Mpg_checkText 284 = .ok (.isub, 1) := by decide +kernel
theorem d_Mpg_checkText_285 : decode b_Mpg_checkText 285 = .ok (.invokevirtual 565, 3) := by decide +kernel
theorem d_Mpg_checkText_288 : decode b_Mpg_checkText 288 = .ok (.return_, 1) := by decide +kernel
theorem q_Mpg_checkText : px_y y_Mpg_checkText 0 := by unfold px_y; decide +kernel
set_option maxHeartbeats 4000000 in
set_option maxRecDepth 100000 in
theorem c_mp_checkText (l : Launch) (D : va_G) (cs : Nat → ClassId) (sk : Nat) (st : Nat) (sb : Nat → Int32) (d : Nat) (w : Int) (h : Nat) (r : Nat → Nat) (g : Nat → Nat → Option Nat) (tf : Nat → Int32) (ta : Nat → Nat → Int32) (pf : Nat → Int32) (na : Nat → Nat → Int32) (wa : Nat → Nat → Int32) (ef : Nat → Int32) (ea : Nat → Nat → Int32) (xf : Nat → Int32) (xa : Nat → Nat → Int32) (ma : Nat → Nat → Int32) (cf : Nat → Int32) (ca : Nat → Nat → Int32)  (g0 : 0 ≤ (pf 13).toInt) (g1 : (pf 13).toInt ≤ 2100) (g2 : 1 ≤ (tf 6).toInt) (g3 : (tf 6).toInt ≤ 2049) (g4 : (cf 30).toInt = 0) (g5 : 0 ≤ (cf 46).toInt) (g6 : (cf 46).toInt ≤ 1) (g7 : 0 ≤ (cf 47).toInt) (g8 : (cf 47).toInt ≤ 1) (g9 : w ≤ 6200) (g10 : (d : Int) ≤ 300) (htk : TkI tf ta) (hfs : FsI (tf 6).toInt (pf 13).toInt na) (hwr : WrV cf (tf 6).toInt) (hrc : RvC ta (tf 6).toInt na ma d 0 (pf 13).toInt w (pf 24)) : MetV l y_Mpg_checkText b_Mpg_checkText 3 D cs (6 * d + 40) (260 * d + 1500) (0) (0) [.ref h] [wdP cs h r g tf ta pf na ma wa cf ca ef ea xf xa] (oX (fun A U H => (oP A g U H) ∧ ((vk_R "HomeSystemModel$Program" 688 "main" sk U ∧ oS A sk st 4 sb U H))) [wdP cs h r g tf ta pf na ma wa cf ca ef ea xf xa]) (fun ps => ∃ (ma' : Nat → Nat → Int32) (cf' : Nat → Int32) (ca' : Nat → Nat → Int32), (ps = [wdP cs h r g tf ta pf na ma' wa cf' ca' ef ea xf xa]) ∧ (WrV cf' (tf 6).toInt) ∧ ((cf' 46).toInt = (cf 46).toInt) ∧ ((cf' 47).toInt = (cf 47).toInt) ∧ (0 ≤ (cf' 38).toInt) ∧ ((cf' 38).toInt ≤ 260) ∧ (0 ≤ (cf' 48).toInt) ∧ ((cf' 48).toInt ≤ 1090) ∧ (0 ≤ (cf' 55).toInt) ∧ ((cf' 55).toInt ≤ 4 * (cf' 41).toInt) ∧ ((cf' 30).toInt = 0 → (cf' 41).toInt ≤ 8192) ∧ ((cf' 30).toInt = 0 → (cf' 38).toInt ≤ 200) ∧ (FnT (tf 6).toInt na ca' (cf' 38).toInt) ∧ (FnP na ca' (cf' 38).toInt) ∧ (FqZ na ca' (cf' 38).toInt (pf 24)) ∧ (Ann na ma ma') ∧ (TxS ca' (cf' 48).toInt (cf' 55).toInt) ∧ (ZTx cf' ta ca' na ma ma' (tf 6).toInt (tf 5).toInt (cf' 38).toInt (cf' 48).toInt sb d (pf 13).toInt (pf 24)) ∧ (R_mp_checkText sb d tf ta pf na ma cf ca ma' cf' ca')) := by
  refine px_enter (by decide) (Nat.le_of_ble_eq_true rfl) ?_
  intro p e s m below meth c A ls hAe S hr hlk hnm hA hT hX hw hl
  have hl : lv_has ls 3 [(0, .ref h)] := hl
  have cstm1 : ((-1) : Int32).toInt = (-1) := rfl
  have cst0 : (0 : Int32).toInt = 0 := rfl
  have cst1 : (1 : Int32).toInt = 1 := rfl
  have cst12 : (12 : Int32).toInt = 12 := rfl
  have cst13 : (13 : Int32).toInt = 13 := rfl
  have cst14 : (14 : Int32).toInt = 14 := rfl
  have cst41 : (41 : Int32).toInt = 41 := rfl
  have cst43 : (43 : Int32).toInt = 43 := rfl
  have cst200 : (200 : Int32).toInt = 200 := rfl
  have cst8192 : (8192 : Int32).toInt = 8192 := rfl
  have hX : (fun A U H => (oP A g U H) ∧ ((vk_R "HomeSystemModel$Program" 688 "main" sk U ∧ oS A sk st 4 sb U H))) A s s.heap := by rw [hAe]; exact hX
  obtain ⟨hP, hMn⟩ := hX
  have hZ := hP.1
  have hF0 := hP.2.1
  have hwr0 := hwr.1
  obtain ⟨ma0, hma0⟩ : ∃ y : Nat → Nat → Int32, y = ma := ⟨_, rfl⟩
  have han : Ann na ma0 ma := (by rw [hma0]; exact Ann.rf)
  have hrc : RvC ta (tf 6).toInt na ma0 d 0 (pf 13).toInt w (pf 24) := (by rw [hma0]; exact hrc)
  have hwp0 := RvE.wp hrc
  have hrc0 := hrc
  have J218 : ∀ (n_218 : Nat) (ma_218 : Nat → Nat → Int32) (cf_218 : Nat → Int32) (ca_218 : Nat → Nat → Int32) (x218_2 : Int32) (H : Heap) (locs : List Loc) (ls : Array Slot), (WrV cf_218 (tf 6).toInt) → ((cf_218 46).toInt = (cf 46).toInt) → ((cf_218 47).toInt = (cf 47).toInt) → (0 ≤ (cf_218 38).toInt) → ((cf_218 38).toInt ≤ 260) → (0 ≤ (cf_218 48).toInt) → ((cf_218 48).toInt ≤ 1090) → (0 ≤ (cf_218 55).toInt) → ((cf_218 55).toInt ≤ 4 * (cf_218 41).toInt) → (0 ≤ (cf_218 41).toInt) → ((cf_218 41).toInt ≤ 4096 * (cf_218 48).toInt) → (0 ≤ x218_2.toInt) → (x218_2.toInt ≤ (cf_218 38).toInt) → (FnT (tf 6).toInt na ca_218 (cf_218 38).toInt) → (FnP na ca_218 (cf_218 38).toInt) → (FqZ na ca_218 (cf_218 38).toInt (pf 24)) → (Ann na ma0 ma_218) → (TxS ca_218 (cf_218 48).toInt (cf_218 55).toInt) → (ZTx cf_218 ta ca_218 na ma0 ma_218 (tf 6).toInt (tf 5).toInt (cf_218 38).toInt (cf_218 48).toInt sb d (pf 13).toInt (pf 24)) → (K_mp_checkText_218 sb d tf ta pf na ma cf ca ma_218 cf_218 ca_218 x218_2) → (cf_218 38).toInt - x218_2.toInt < (n_218 : Int) → pw D A s.heap H locs [wdP cs h r g tf ta pf na ma_218 wa cf_218 ca_218 ef ea xf xa] → lv_has ls 3 [(0, .ref h), (2, .int x218_2)] → W p l e { frames := (6 * d + 40), cells := 0, slots := 0, locals := (260 * d + 1500) } s m [.ref h].toArray below meth c H locs 0 0 (MQ below (va_Qv (fun ps => ∃ (ma' : Nat → Nat → Int32) (cf' : Nat → Int32) (ca' : Nat → Nat → Int32), (ps = [wdP cs h r g tf ta pf na ma' wa cf' ca' ef ea xf xa]) ∧ (WrV cf' (tf 6).toInt) ∧ ((cf' 46).toInt = (cf 46).toInt) ∧ ((cf' 47).toInt = (cf 47).toInt) ∧ (0 ≤ (cf' 38).toInt) ∧ ((cf' 38).toInt ≤ 260) ∧ (0 ≤ (cf' 48).toInt) ∧ ((cf' 48).toInt ≤ 1090) ∧ (0 ≤ (cf' 55).toInt) ∧ ((cf' 55).toInt ≤ 4 * (cf' 41).toInt) ∧ ((cf' 30).toInt = 0 → (cf' 41).toInt ≤ 8192) ∧ ((cf' 30).toInt = 0 → (cf' 38).toInt ≤ 200) ∧ (FnT (tf 6).toInt na ca' (cf' 38).toInt) ∧ (FnP na ca' (cf' 38).toInt) ∧ (FqZ na ca' (cf' 38).toInt (pf 24)) ∧ (Ann na ma ma') ∧ (TxS ca' (cf' 48).toInt (cf' 55).toInt) ∧ (ZTx cf' ta ca' na ma ma' (tf 6).toInt (tf 5).toInt (cf' 38).toInt (cf' 48).toInt sb d (pf 13).toInt (pf 24)) ∧ (R_mp_checkText sb d tf ta pf na ma cf ca ma' cf' ca')) (pc_B D (va_A ([wdP cs h r g tf ta pf na ma wa cf ca ef ea xf xa] : List va_W).flatten s.heap.size)) (va_A ([wdP cs h r g tf ta pf na ma wa cf ca ef ea xf xa] : List va_W).flatten s.heap.size)) [.ref h].toArray s 0 0 A) (F0 m 218 ls []) := by
    intro  n_218
    induction n_218 with
    | zero =>
      intro ma_218 cf_218 ca_218 x218_2 H locs ls k218_0 k218_1 k218_2 k218_3 k218_4 k218_5 k218_6 k218_7 k218_8 k218_9 k218_10 k218_11 k218_12 k218_13 k218_14 k218_15 k218_16 k218_17 k218_18 k218_19 hm hw hl
      have lx218_2 := Int32.le_toInt x218_2
      have ux218_2 := Int32.toInt_lt x218_2
      have hwr := k218_0
      have hw0_k218_0 := hwr.1
      have hft := k218_13
      have hf11 := hft.1
      have hfp := k218_14
      have hfz := k218_15
      have han := k218_16
      have htxs := k218_17
      have hztx := k218_18
      exact absurd hm (by omega)
    | succ n_218 ih218 =>
      intro ma_218 cf_218 ca_218 x218_2 H locs ls k218_0 k218_1 k218_2 k218_3 k218_4 k218_5 k218_6 k218_7 k218_8 k218_9 k218_10 k218_11 k218_12 k218_13 k218_14 k218_15 k218_16 k218_17 k218_18 k218_19 hm hw hl
      have lx218_2 := Int32.le_toInt x218_2
      have ux218_2 := Int32.toInt_lt x218_2
      have hwr := k218_0
      have hw0_k218_0 := hwr.1
      have hft := k218_13
      have hf11 := hft.1
      have hfp := k218_14
      have hfz := k218_15
      have han := k218_16
      have htxs := k218_17
      have hztx := k218_18
      refine lv_iload_n S.x S.b d_Mpg_checkText_218 rfl (lv_at hl 1 rfl) ?_
      refine lv_aload_n S.x S.b d_Mpg_checkText_219 rfl (lv_at hl 0 rfl) ?_
      refine gP_38 (v := (cf_218 38)) S hT hw 0 rfl rfl m10_27 d_Mpg_checkText_220 ?_
      refine lv_icmp_ge (tgt := 256) S.x S.b d_Mpg_checkText_223 (by decide) (fun c1 => ?_) (fun c1 => ?_)
      · have nc1 : (cf_218 38).toInt ≤ x218_2.toInt := (i_le (x := (cf_218 38)) (y := x218_2)).mp c1
        refine lv_aload_n S.x S.b d_Mpg_checkText_256 rfl (lv_at hl 0 rfl) ?_
        refine gP_38 (v := (cf_218 38)) S hT hw 0 rfl rfl m10_27 d_Mpg_checkText_257 ?_
        refine lv_sipush (v := 200) S.x S.b d_Mpg_checkText_260 (by decide) ?_
        refine lv_icmp_gt (tgt := 276) S.x S.b d_Mpg_checkText_263 (by decide) (fun c3 => ?_) (fun c3 => ?_)
        · have nc3 : (200 : Int) < (cf_218 38).toInt := (i_lt (x := 200) (y := (cf_218 38))).mp c3
          refine lv_aload_n S.x S.b d_Mpg_checkText_276 rfl (lv_at hl 0 rfl) ?_
          refine lv_bipush (v := 14) S.x S.b d_Mpg_checkText_277 (by decide) ?_
          refine lv_aload_n S.x S.b d_Mpg_checkText_279 rfl (lv_at hl 0 rfl) ?_
          refine gP_6 (v := (tf 6)) S hT hw 0 rfl rfl m9_230 d_Mpg_checkText_280 ?_
          refine lv_iconst (v := 1) S.x S.b d_Mpg_checkText_283 (by decide) ?_
          refine lv_isub S.x S.b d_Mpg_checkText_284 ?_
          have lr5 := Int32.le_toInt (tf 6)
          have ur5 := Int32.toInt_lt (tf 6)
          refine lv_topi (fun z6 ez6 => ?_)
          have tz6 : z6.toInt = ((tf 6).toInt - (1 : Int) + 2147483648) % 4294967296 - 2147483648 := by rw [ez6]; exact i_sub (tf 6) 1
          have lz6 := Int32.le_toInt z6
          have uz6 := Int32.toInt_lt z6
          try replace tz6 : z6.toInt = (tf 6).toInt - (1 : Int) := by omega
          first | refine px_callv (pr := []) (px_runV (As := [.int 14, .int z6]) (rest := []) S (c_mp_bad l D cs h r g tf ta pf na ma_218 wa ca_218 ef ea xf xa cf_218 14 z6  (show 1 ≤ (14 : Int) from oz_69a583216a) (show 0 ≤ z6.toInt from (oz_7c6df0c705 tz6 g2)) (show z6.toInt < (tf 6).toInt from (oz_017357d48a tz6)) htk hwr _) hT (pr := []) (pcs := [wdP cs h r g tf ta pf na ma_218 wa cf_218 ca_218 ef ea xf xa]) hw px_X.tt (px_recv hT hw 0 0 rfl rfl rfl) m12_173 m12_170 m12_172 ms_11_12 m1_21 q_Mpg_bad ⟨show 0 + 1 ≤ (6 * d + 40) from (oz_41dc904c2d), show 8 + (3 + 11) + 0 ≤ (260 * d + 1500) from (oz_4220975ee0)⟩ hl.1 rfl (Nat.le_of_ble_eq_true rfl) d_Mpg_checkText_285 ⟨Nat.le_of_ble_eq_true rfl, Nat.le_of_ble_eq_true rfl⟩) hw hA (fun p9 H locs hp9 hw => ?_) | (refine px_callv (pr := []) (px_runV (As := [.int 14, .int z6]) (rest := []) S (c_mp_bad l D cs h r g tf ta pf na ma_218 wa ca_218 ef ea xf xa cf_218 14 z6  (show 1 ≤ (14 : Int) from by first | exact oz_69a583216a | omega) (show 0 ≤ z6.toInt from by first | exact oz_7c6df0c705 tz6 g2 | omega) (show z6.toInt < (tf 6).toInt from by first | exact oz_017357d48a tz6 | omega) htk hwr _) hT (pr := []) (pcs := [wdP cs h r g tf ta pf na ma_218 wa cf_218 ca_218 ef ea xf xa]) hw px_X.tt (px_recv hT hw 0 0 rfl rfl rfl) m12_173 m12_170 m12_172 ms_11_12 m1_21 q_Mpg_bad ⟨show 0 + 1 ≤ (6 * d + 40) from (by first | exact oz_41dc904c2d | omega), show 8 + (3 + 11) + 0 ≤ (260 * d + 1500) from (by first | exact oz_4220975ee0 | omega)⟩ hl.1 rfl (Nat.le_of_ble_eq_true rfl) d_Mpg_checkText_285 ⟨Nat.le_of_ble_eq_true rfl, Nat.le_of_ble_eq_true rfl⟩) hw hA (fun p9 H locs hp9 hw => ?_))
          obtain ⟨cf8, rfl, e11, e12, e13, e14, e15, e16, e17, e18, e19, e20, e21, e22, e23, e24, e25, e26, e27, e28, e29, e30⟩ := hp9
          have e11 : KpE cf_218 cf8 := e11
          have hkz_e11 := e11.2
          have hztx := Zr.kp hztx e11 id
          have e12 : WrV cf8 (tf 6).toInt := e12
          have hwr := e12
          have hw0_e12 := hwr.1
          have e13 : 1 ≤ (cf8 30).toInt := e13
          have e14 : (cf8 33).toInt = (cf_218 33).toInt := e14
          have e15 : (cf8 38).toInt = (cf_218 38).toInt := e15
          have e16 : (cf8 48).toInt = (cf_218 48).toInt := e16
          have e17 : (cf8 46).toInt = (cf_218 46).toInt := e17
          have e18 : (cf8 47).toInt = (cf_218 47).toInt := e18
          have e19 : (cf8 57).toInt = (cf_218 57).toInt := e19
          have e20 : (cf8 37).toInt = (cf_218 37).toInt := e20
          have e21 : (cf8 42).toInt = (cf_218 42).toInt := e21
          have e22 : (cf8 43).toInt = (cf_218 43).toInt := e22
          have e23 : (cf8 44).toInt = (cf_218 44).toInt := e23
          have e24 : (cf8 45).toInt = (cf_218 45).toInt := e24
          have e25 : (cf8 54).toInt = (cf_218 54).toInt := e25
          have e26 : (cf8 55).toInt = (cf_218 55).toInt := e26
          have e27 : (cf8 58).toInt = (cf_218 58).toInt := e27
          have e28 : (cf8 59).toInt = (cf_218 59).toInt := e28
          have e29 : (cf8 41).toInt = (cf_218 41).toInt := e29
          have e30 : R_mp_bad (14 : Int32) z6 cf_218 cf8 := e30
          first | exact px_vret S hr hlk hAe hw (Nat.le_of_ble_eq_true rfl) (Nat.le_of_ble_eq_true rfl) (⟨ma_218, cf8, ca_218, rfl, (show WrV cf8 (tf 6).toInt from hwr), (show (cf8 46).toInt = (cf 46).toInt from (oz_1687f4cc65 k218_1 e17)), (show (cf8 47).toInt = (cf 47).toInt from (oz_1687f4cc65 k218_2 e18)), (show 0 ≤ (cf8 38).toInt from (oz_268b73b22f e15 nc3)), (show (cf8 38).toInt ≤ 260 from (oz_a3718179ed e15 k218_4)), (show 0 ≤ (cf8 48).toInt from (oz_f3ebed1ad0 e16 k218_5)), (show (cf8 48).toInt ≤ 1090 from (oz_31d6e22d67 e16 k218_6)), (show 0 ≤ (cf8 55).toInt from (oz_f3ebed1ad0 e26 k218_7)), (show (cf8 55).toInt ≤ 4 * (cf8 41).toInt from (oz_b799c596aa e26 e29 k218_8)), (show (cf8 30).toInt = 0 → (cf8 41).toInt ≤ 8192 from by omega), (show (cf8 30).toInt = 0 → (cf8 38).toInt ≤ 200 from by omega), (show FnT (tf 6).toInt na ca_218 (cf8 38).toInt from (FnT.eq hft (show _ = (cf8 38).toInt by omega))), (show FnP na ca_218 (cf8 38).toInt from (FnP.eq hfp (by omega))), (show FqZ na ca_218 (cf8 38).toInt (pf 24) from (FqZ.eq hfz (by omega))), (show Ann na ma ma_218 from (by rw [← hma0]; exact han)), (show TxS ca_218 (cf8 48).toInt (cf8 55).toInt from (TxS.eq htxs (by omega) (by omega))), (show ZTx cf8 ta ca_218 na ma ma_218 (tf 6).toInt (tf 5).toInt (cf8 38).toInt (cf8 48).toInt sb d (pf 13).toInt (pf 24) from (by rw [← hma0]; exact (fun zz => TxR_eq (hztx (by have q8 : (cf8 30).toInt = 0 := zz; omega)) (by omega) (by omega)))), (show R_mp_checkText sb d tf ta pf na ma cf ca ma_218 cf8 ca_218 from (k218_19 _ _ _ 1 (Or.inr (Or.inr (Or.inr (Or.inl ⟨rfl, x218_2, rfl, rfl, rfl, rfl, rfl, Or.inl ⟨nc1, Or.inl ⟨nc3, z6, ez6, cf8, e30, rfl, rfl, rfl⟩⟩⟩))))))⟩) d_Mpg_checkText_288 | (exact px_vret S hr hlk hAe hw (Nat.le_of_ble_eq_true rfl) (Nat.le_of_ble_eq_true rfl) (⟨ma_218, cf8, ca_218, rfl, (show WrV cf8 (tf 6).toInt from hwr), (show (cf8 46).toInt = (cf 46).toInt from by first | exact oz_1687f4cc65 k218_1 e17 | omega), (show (cf8 47).toInt = (cf 47).toInt from by first | exact oz_1687f4cc65 k218_2 e18 | omega), (show 0 ≤ (cf8 38).toInt from by first | exact oz_268b73b22f e15 nc3 | omega), (show (cf8 38).toInt ≤ 260 from by first | exact oz_a3718179ed e15 k218_4 | omega), (show 0 ≤ (cf8 48).toInt from by first | exact oz_f3ebed1ad0 e16 k218_5 | omega), (show (cf8 48).toInt ≤ 1090 from by first | exact oz_31d6e22d67 e16 k218_6 | omega), (show 0 ≤ (cf8 55).toInt from by first | exact oz_f3ebed1ad0 e26 k218_7 | omega), (show (cf8 55).toInt ≤ 4 * (cf8 41).toInt from by first | exact oz_b799c596aa e26 e29 k218_8 | omega), (show (cf8 30).toInt = 0 → (cf8 41).toInt ≤ 8192 from by omega), (show (cf8 30).toInt = 0 → (cf8 38).toInt ≤ 200 from by omega), (show FnT (tf 6).toInt na ca_218 (cf8 38).toInt from (FnT.eq hft (show _ = (cf8 38).toInt by omega))), (show FnP na ca_218 (cf8 38).toInt from (FnP.eq hfp (by omega))), (show FqZ na ca_218 (cf8 38).toInt (pf 24) from (FqZ.eq hfz (by omega))), (show Ann na ma ma_218 from (by rw [← hma0]; exact han)), (show TxS ca_218 (cf8 48).toInt (cf8 55).toInt from (TxS.eq htxs (by omega) (by omega))), (show ZTx cf8 ta ca_218 na ma ma_218 (tf 6).toInt (tf 5).toInt (cf8 38).toInt (cf8 48).toInt sb d (pf 13).toInt (pf 24) from (by rw [← hma0]; exact (fun zz => TxR_eq (hztx (by have q8 : (cf8 30).toInt = 0 := zz; omega)) (by omega) (by omega)))), (show R_mp_checkText sb d tf ta pf na ma cf ca ma_218 cf8 ca_218 from (k218_19 _ _ _ 1 (Or.inr (Or.inr (Or.inr (Or.inl ⟨rfl, x218_2, rfl, rfl, rfl, rfl, rfl, Or.inl ⟨nc1, Or.inl ⟨nc3, z6, ez6, cf8, e30, rfl, rfl, rfl⟩⟩⟩))))))⟩) d_Mpg_checkText_288)
        · have nc3 : ¬ (200 : Int) < (cf_218 38).toInt := mt (i_lt (x := 200) (y := (cf_218 38))).mpr c3
          refine lv_aload_n S.x S.b d_Mpg_checkText_266 rfl (lv_at hl 0 rfl) ?_
          refine gP_41 (v := (cf_218 41)) S hT hw 0 rfl rfl m10_32 d_Mpg_checkText_267 ?_
          refine lv_sipush (v := 8192) S.x S.b d_Mpg_checkText_270 (by decide) ?_
          refine lv_icmp_le (tgt := 288) S.x S.b d_Mpg_checkText_273 (by decide) (fun c31 => ?_) (fun c31 => ?_)
          · have nc31 : (cf_218 41).toInt ≤ (8192 : Int) := (i_le (x := (cf_218 41)) (y := 8192)).mp c31
            first | exact px_vret S hr hlk hAe hw (Nat.le_of_ble_eq_true rfl) (Nat.le_of_ble_eq_true rfl) (⟨ma_218, cf_218, ca_218, rfl, (show WrV cf_218 (tf 6).toInt from hwr), (show (cf_218 46).toInt = (cf 46).toInt from k218_1), (show (cf_218 47).toInt = (cf 47).toInt from k218_2), (show 0 ≤ (cf_218 38).toInt from k218_3), (show (cf_218 38).toInt ≤ 260 from k218_4), (show 0 ≤ (cf_218 48).toInt from k218_5), (show (cf_218 48).toInt ≤ 1090 from k218_6), (show 0 ≤ (cf_218 55).toInt from k218_7), (show (cf_218 55).toInt ≤ 4 * (cf_218 41).toInt from k218_8), (show (cf_218 30).toInt = 0 → (cf_218 41).toInt ≤ 8192 from (fun q9 => oz_f53570ab19 nc31)), (show (cf_218 30).toInt = 0 → (cf_218 38).toInt ≤ 200 from (fun q9 => oz_835a9fd040 nc3)), (show FnT (tf 6).toInt na ca_218 (cf_218 38).toInt from (FnT.eq hft (show _ = (cf_218 38).toInt by omega))), (show FnP na ca_218 (cf_218 38).toInt from (FnP.eq hfp (by omega))), (show FqZ na ca_218 (cf_218 38).toInt (pf 24) from (FqZ.eq hfz (by omega))), (show Ann na ma ma_218 from (by rw [← hma0]; exact han)), (show TxS ca_218 (cf_218 48).toInt (cf_218 55).toInt from (TxS.eq htxs (by omega) (by omega))), (show ZTx cf_218 ta ca_218 na ma ma_218 (tf 6).toInt (tf 5).toInt (cf_218 38).toInt (cf_218 48).toInt sb d (pf 13).toInt (pf 24) from (by rw [← hma0]; exact (fun zz => TxR_eq (hztx (by have q8 : (cf_218 30).toInt = 0 := zz; omega)) (by omega) (by omega)))), (show R_mp_checkText sb d tf ta pf na ma cf ca ma_218 cf_218 ca_218 from (k218_19 _ _ _ 1 (Or.inr (Or.inr (Or.inr (Or.inl ⟨rfl, x218_2, rfl, rfl, rfl, rfl, rfl, Or.inl ⟨nc1, Or.inr ⟨nc3, Or.inl ⟨nc31, rfl, rfl, rfl⟩⟩⟩⟩))))))⟩) d_Mpg_checkText_288 | (exact px_vret S hr hlk hAe hw (Nat.le_of_ble_eq_true rfl) (Nat.le_of_ble_eq_true rfl) (⟨ma_218, cf_218, ca_218, rfl, (show WrV cf_218 (tf 6).toInt from hwr), (show (cf_218 46).toInt = (cf 46).toInt from by first | exact k218_1 | omega), (show (cf_218 47).toInt = (cf 47).toInt from by first | exact k218_2 | omega), (show 0 ≤ (cf_218 38).toInt from by first | exact k218_3 | omega), (show (cf_218 38).toInt ≤ 260 from by first | exact k218_4 | omega), (show 0 ≤ (cf_218 48).toInt from by first | exact k218_5 | omega), (show (cf_218 48).toInt ≤ 1090 from by first | exact k218_6 | omega), (show 0 ≤ (cf_218 55).toInt from by first | exact k218_7 | omega), (show (cf_218 55).toInt ≤ 4 * (cf_218 41).toInt from by first | exact k218_8 | omega), (show (cf_218 30).toInt = 0 → (cf_218 41).toInt ≤ 8192 from by first | exact fun q9 => oz_f53570ab19 nc31 | omega), (show (cf_218 30).toInt = 0 → (cf_218 38).toInt ≤ 200 from by first | exact fun q9 => oz_835a9fd040 nc3 | omega), (show FnT (tf 6).toInt na ca_218 (cf_218 38).toInt from (FnT.eq hft (show _ = (cf_218 38).toInt by omega))), (show FnP na ca_218 (cf_218 38).toInt from (FnP.eq hfp (by omega))), (show FqZ na ca_218 (cf_218 38).toInt (pf 24) from (FqZ.eq hfz (by omega))), (show Ann na ma ma_218 from (by rw [← hma0]; exact han)), (show TxS ca_218 (cf_218 48).toInt (cf_218 55).toInt from (TxS.eq htxs (by omega) (by omega))), (show ZTx cf_218 ta ca_218 na ma ma_218 (tf 6).toInt (tf 5).toInt (cf_218 38).toInt (cf_218 48).toInt sb d (pf 13).toInt (pf 24) from (by rw [← hma0]; exact (fun zz => TxR_eq (hztx (by have q8 : (cf_218 30).toInt = 0 := zz; omega)) (by omega) (by omega)))), (show R_mp_checkText sb d tf ta pf na ma cf ca ma_218 cf_218 ca_218 from (k218_19 _ _ _ 1 (Or.inr (Or.inr (Or.inr (Or.inl ⟨rfl, x218_2, rfl, rfl, rfl, rfl, rfl, Or.inl ⟨nc1, Or.inr ⟨nc3, Or.inl ⟨nc31, rfl, rfl, rfl⟩⟩⟩⟩))))))⟩) d_Mpg_checkText_288)
          · have nc31 : ¬ (cf_218 41).toInt ≤ (8192 : Int) := mt (i_le (x := (cf_218 41)) (y := 8192)).mpr c31
            refine lv_aload_n S.x S.b d_Mpg_checkText_276 rfl (lv_at hl 0 rfl) ?_
            refine lv_bipush (v := 14) S.x S.b d_Mpg_checkText_277 (by decide) ?_
            refine lv_aload_n S.x S.b d_Mpg_checkText_279 rfl (lv_at hl 0 rfl) ?_
            refine gP_6 (v := (tf 6)) S hT hw 0 rfl rfl m9_230 d_Mpg_checkText_280 ?_
            refine lv_iconst (v := 1) S.x S.b d_Mpg_checkText_283 (by decide) ?_
            refine lv_isub S.x S.b d_Mpg_checkText_284 ?_
            have lr33 := Int32.le_toInt (tf 6)
            have ur33 := Int32.toInt_lt (tf 6)
            refine lv_topi (fun z34 ez34 => ?_)
            have tz34 : z34.toInt = ((tf 6).toInt - (1 : Int) + 2147483648) % 4294967296 - 2147483648 := by rw [ez34]; exact i_sub (tf 6) 1
            have lz34 := Int32.le_toInt z34
            have uz34 := Int32.toInt_lt z34
            try replace tz34 : z34.toInt = (tf 6).toInt - (1 : Int) := by omega
            first | refine px_callv (pr := []) (px_runV (As := [.int 14, .int z34]) (rest := []) S (c_mp_bad l D cs h r g tf ta pf na ma_218 wa ca_218 ef ea xf xa cf_218 14 z34  (show 1 ≤ (14 : Int) from oz_69a583216a) (show 0 ≤ z34.toInt from (oz_7c6df0c705 tz34 g2)) (show z34.toInt < (tf 6).toInt from (oz_017357d48a tz34)) htk hwr _) hT (pr := []) (pcs := [wdP cs h r g tf ta pf na ma_218 wa cf_218 ca_218 ef ea xf xa]) hw px_X.tt (px_recv hT hw 0 0 rfl rfl rfl) m12_173 m12_170 m12_172 ms_11_12 m1_21 q_Mpg_bad ⟨show 0 + 1 ≤ (6 * d + 40) from (oz_41dc904c2d), show 8 + (3 + 11) + 0 ≤ (260 * d + 1500) from (oz_4220975ee0)⟩ hl.1 rfl (Nat.le_of_ble_eq_true rfl) d_Mpg_checkText_285 ⟨Nat.le_of_ble_eq_true rfl, Nat.le_of_ble_eq_true rfl⟩) hw hA (fun p37 H locs hp37 hw => ?_) | (refine px_callv (pr := []) (px_runV (As := [.int 14, .int z34]) (rest := []) S (c_mp_bad l D cs h r g tf ta pf na ma_218 wa ca_218 ef ea xf xa cf_218 14 z34  (show 1 ≤ (14 : Int) from by first | exact oz_69a583216a | omega) (show 0 ≤ z34.toInt from by first | exact oz_7c6df0c705 tz34 g2 | omega) (show z34.toInt < (tf 6).toInt from by first | exact oz_017357d48a tz34 | omega) htk hwr _) hT (pr := []) (pcs := [wdP cs h r g tf ta pf na ma_218 wa cf_218 ca_218 ef ea xf xa]) hw px_X.tt (px_recv hT hw 0 0 rfl rfl rfl) m12_173 m12_170 m12_172 ms_11_12 m1_21 q_Mpg_bad ⟨show 0 + 1 ≤ (6 * d + 40) from (by first | exact oz_41dc904c2d | omega), show 8 + (3 + 11) + 0 ≤ (260 * d + 1500) from (by first | exact oz_4220975ee0 | omega)⟩ hl.1 rfl (Nat.le_of_ble_eq_true rfl) d_Mpg_checkText_285 ⟨Nat.le_of_ble_eq_true rfl, Nat.le_of_ble_eq_true rfl⟩) hw hA (fun p37 H locs hp37 hw => ?_))
            obtain ⟨cf36, rfl, e39, e40, e41, e42, e43, e44, e45, e46, e47, e48, e49, e50, e51, e52, e53, e54, e55, e56, e57, e58⟩ := hp37
            have e39 : KpE cf_218 cf36 := e39
            have hkz_e39 := e39.2
            have hztx := Zr.kp hztx e39 id
            have e40 : WrV cf36 (tf 6).toInt := e40
            have hwr := e40
            have hw0_e40 := hwr.1
            have e41 : 1 ≤ (cf36 30).toInt := e41
            have e42 : (cf36 33).toInt = (cf_218 33).toInt := e42
            have e43 : (cf36 38).toInt = (cf_218 38).toInt := e43
            have e44 : (cf36 48).toInt = (cf_218 48).toInt := e44
            have e45 : (cf36 46).toInt = (cf_218 46).toInt := e45
            have e46 : (cf36 47).toInt = (cf_218 47).toInt := e46
            have e47 : (cf36 57).toInt = (cf_218 57).toInt := e47
            have e48 : (cf36 37).toInt = (cf_218 37).toInt := e48
            have e49 : (cf36 42).toInt = (cf_218 42).toInt := e49
            have e50 : (cf36 43).toInt = (cf_218 43).toInt := e50
            have e51 : (cf36 44).toInt = (cf_218 44).toInt := e51
            have e52 : (cf36 45).toInt = (cf_218 45).toInt := e52
            have e53 : (cf36 54).toInt = (cf_218 54).toInt := e53
            have e54 : (cf36 55).toInt = (cf_218 55).toInt := e54
            have e55 : (cf36 58).toInt = (cf_218 58).toInt := e55
            have e56 : (cf36 59).toInt = (cf_218 59).toInt := e56
            have e57 : (cf36 41).toInt = (cf_218 41).toInt := e57
            have e58 : R_mp_bad (14 : Int32) z34 cf_218 cf36 := e58
            first | exact px_vret S hr hlk hAe hw (Nat.le_of_ble_eq_true rfl) (Nat.le_of_ble_eq_true rfl) (⟨ma_218, cf36, ca_218, rfl, (show WrV cf36 (tf 6).toInt from hwr), (show (cf36 46).toInt = (cf 46).toInt from (oz_1687f4cc65 k218_1 e45)), (show (cf36 47).toInt = (cf 47).toInt from (oz_1687f4cc65 k218_2 e46)), (show 0 ≤ (cf36 38).toInt from (oz_f3ebed1ad0 e43 k218_3)), (show (cf36 38).toInt ≤ 260 from (oz_c4b1918348 e43 nc3)), (show 0 ≤ (cf36 48).toInt from (oz_f3ebed1ad0 e44 k218_5)), (show (cf36 48).toInt ≤ 1090 from (oz_31d6e22d67 e44 k218_6)), (show 0 ≤ (cf36 55).toInt from (oz_f3ebed1ad0 e54 k218_7)), (show (cf36 55).toInt ≤ 4 * (cf36 41).toInt from (oz_b799c596aa e54 e57 k218_8)), (show (cf36 30).toInt = 0 → (cf36 41).toInt ≤ 8192 from by omega), (show (cf36 30).toInt = 0 → (cf36 38).toInt ≤ 200 from (fun q9 => oz_4c8369a87f e43 nc3)), (show FnT (tf 6).toInt na ca_218 (cf36 38).toInt from (FnT.eq hft (show _ = (cf36 38).toInt by omega))), (show FnP na ca_218 (cf36 38).toInt from (FnP.eq hfp (by omega))), (show FqZ na ca_218 (cf36 38).toInt (pf 24) from (FqZ.eq hfz (by omega))), (show Ann na ma ma_218 from (by rw [← hma0]; exact han)), (show TxS ca_218 (cf36 48).toInt (cf36 55).toInt from (TxS.eq htxs (by omega) (by omega))), (show ZTx cf36 ta ca_218 na ma ma_218 (tf 6).toInt (tf 5).toInt (cf36 38).toInt (cf36 48).toInt sb d (pf 13).toInt (pf 24) from (by rw [← hma0]; exact (fun zz => TxR_eq (hztx (by have q8 : (cf36 30).toInt = 0 := zz; omega)) (by omega) (by omega)))), (show R_mp_checkText sb d tf ta pf na ma cf ca ma_218 cf36 ca_218 from (k218_19 _ _ _ 1 (Or.inr (Or.inr (Or.inr (Or.inl ⟨rfl, x218_2, rfl, rfl, rfl, rfl, rfl, Or.inl ⟨nc1, Or.inr ⟨nc3, Or.inr ⟨nc31, z34, ez34, cf36, e58, rfl, rfl, rfl⟩⟩⟩⟩))))))⟩) d_Mpg_checkText_288 | (exact px_vret S hr hlk hAe hw (Nat.le_of_ble_eq_true rfl) (Nat.le_of_ble_eq_true rfl) (⟨ma_218, cf36, ca_218, rfl, (show WrV cf36 (tf 6).toInt from hwr), (show (cf36 46).toInt = (cf 46).toInt from by first | exact oz_1687f4cc65 k218_1 e45 | omega), (show (cf36 47).toInt = (cf 47).toInt from by first | exact oz_1687f4cc65 k218_2 e46 | omega), (show 0 ≤ (cf36 38).toInt from by first | exact oz_f3ebed1ad0 e43 k218_3 | omega), (show (cf36 38).toInt ≤ 260 from by first | exact oz_c4b1918348 e43 nc3 | omega), (show 0 ≤ (cf36 48).toInt from by first | exact oz_f3ebed1ad0 e44 k218_5 | omega), (show (cf36 48).toInt ≤ 1090 from by first | exact oz_31d6e22d67 e44 k218_6 | omega), (show 0 ≤ (cf36 55).toInt from by first | exact oz_f3ebed1ad0 e54 k218_7 | omega), (show (cf36 55).toInt ≤ 4 * (cf36 41).toInt from by first | exact oz_b799c596aa e54 e57 k218_8 | omega), (show (cf36 30).toInt = 0 → (cf36 41).toInt ≤ 8192 from by omega), (show (cf36 30).toInt = 0 → (cf36 38).toInt ≤ 200 from by first | exact fun q9 => oz_4c8369a87f e43 nc3 | omega), (show FnT (tf 6).toInt na ca_218 (cf36 38).toInt from (FnT.eq hft (show _ = (cf36 38).toInt by omega))), (show FnP na ca_218 (cf36 38).toInt from (FnP.eq hfp (by omega))), (show FqZ na ca_218 (cf36 38).toInt (pf 24) from (FqZ.eq hfz (by omega))), (show Ann na ma ma_218 from (by rw [← hma0]; exact han)), (show TxS ca_218 (cf36 48).toInt (cf36 55).toInt from (TxS.eq htxs (by omega) (by omega))), (show ZTx cf36 ta ca_218 na ma ma_218 (tf 6).toInt (tf 5).toInt (cf36 38).toInt (cf36 48).toInt sb d (pf 13).toInt (pf 24) from (by rw [← hma0]; exact (fun zz => TxR_eq (hztx (by have q8 : (cf36 30).toInt = 0 := zz; omega)) (by omega) (by omega)))), (show R_mp_checkText sb d tf ta pf na ma cf ca ma_218 cf36 ca_218 from (k218_19 _ _ _ 1 (Or.inr (Or.inr (Or.inr (Or.inl ⟨rfl, x218_2, rfl, rfl, rfl, rfl, rfl, Or.inl ⟨nc1, Or.inr ⟨nc3, Or.inr ⟨nc31, z34, ez34, cf36, e58, rfl, rfl, rfl⟩⟩⟩⟩))))))⟩) d_Mpg_checkText_288)
      · have nc1 : ¬ (cf_218 38).toInt ≤ x218_2.toInt := mt (i_le (x := (cf_218 38)) (y := x218_2)).mpr c1
        refine lv_aload_n S.x S.b d_Mpg_checkText_226 rfl (lv_at hl 0 rfl) ?_
        refine gP_40 S hT hw 0 rfl m10_30 d_Mpg_checkText_227 ?_
        refine lv_iload_n S.x S.b d_Mpg_checkText_230 rfl (lv_at hl 1 rfl) ?_
        refine px_iald S hT hw 0 27 (n := 260) (f := (ca_218 40)) rfl gp_40 (x := x218_2) (vp_in_iff.mpr (by first | exact oz_873c269565 k218_11 nc1 k218_4 | (constructor <;> omega))) d_Mpg_checkText_231 ?_
        refine lv_topi (fun z59 ez59 => ?_)
        have lz59 := Int32.le_toInt z59
        have uz59 := Int32.toInt_lt z59
        refine lv_sipush (v := 8192) S.x S.b d_Mpg_checkText_232 (by decide) ?_
        refine lv_icmp_le (tgt := 250) S.x S.b d_Mpg_checkText_235 (by decide) (fun c60 => ?_) (fun c60 => ?_)
        · have nc60 : z59.toInt ≤ (8192 : Int) := (i_le (x := z59) (y := 8192)).mp c60
          obtain ⟨z62, ez62⟩ : ∃ y : Int32, y = x218_2 + 1 := ⟨_, rfl⟩
          have tz62 : z62.toInt = (x218_2.toInt + 1 + 2147483648) % 4294967296 - 2147483648 := by rw [ez62]; exact i_add x218_2 1
          have lz62 := Int32.le_toInt z62
          have uz62 := Int32.toInt_lt z62
          try replace tz62 : z62.toInt = x218_2.toInt + 1 := by omega
          refine lv_iinc (v := z62) (lv' := [(2, .int z62), (0, .ref h)]) S.x S.b d_Mpg_checkText_250 hl (k := 1) rfl (by rw [ez62]; rfl) (by decide) rfl (fun ls hl => ?_)
          refine lv_goto (tgt := 218) S.x S.b d_Mpg_checkText_253 (by decide) ?_
          first | exact ih218 ma_218 cf_218 ca_218 z62 _ _ ls (show WrV cf_218 (tf 6).toInt from hwr) (show (cf_218 46).toInt = (cf 46).toInt from k218_1) (show (cf_218 47).toInt = (cf 47).toInt from k218_2) (show 0 ≤ (cf_218 38).toInt from k218_3) (show (cf_218 38).toInt ≤ 260 from k218_4) (show 0 ≤ (cf_218 48).toInt from k218_5) (show (cf_218 48).toInt ≤ 1090 from k218_6) (show 0 ≤ (cf_218 55).toInt from k218_7) (show (cf_218 55).toInt ≤ 4 * (cf_218 41).toInt from k218_8) (show 0 ≤ (cf_218 41).toInt from k218_9) (show (cf_218 41).toInt ≤ 4096 * (cf_218 48).toInt from k218_10) (show 0 ≤ z62.toInt from (oz_ae613611c0 tz62 k218_11)) (show z62.toInt ≤ (cf_218 38).toInt from (oz_b1314744c8 nc1 tz62)) (show FnT (tf 6).toInt na ca_218 (cf_218 38).toInt from (FnT.eq hft (show _ = (cf_218 38).toInt by omega))) (show FnP na ca_218 (cf_218 38).toInt from (FnP.eq hfp (by omega))) (show FqZ na ca_218 (cf_218 38).toInt (pf 24) from (FqZ.eq hfz (by omega))) (show Ann na ma0 ma_218 from han) (show TxS ca_218 (cf_218 48).toInt (cf_218 55).toInt from (TxS.eq htxs (by omega) (by omega))) (show ZTx cf_218 ta ca_218 na ma0 ma_218 (tf 6).toInt (tf 5).toInt (cf_218 38).toInt (cf_218 48).toInt sb d (pf 13).toInt (pf 24) from (fun zz => TxR_eq (hztx (by have q8 : (cf_218 30).toInt = 0 := zz; omega)) (by omega) (by omega))) (show K_mp_checkText_218 sb d tf ta pf na ma cf ca ma_218 cf_218 ca_218 z62 from (fun y_f0 y_f1 y_f2 k hE => k218_19 y_f0 y_f1 y_f2 (k + 1) (Or.inr (Or.inr (Or.inr (Or.inl ⟨rfl, x218_2, rfl, rfl, rfl, rfl, rfl, Or.inr ⟨nc1, z59, ez59, Or.inl ⟨nc60, z62, ez62, hE⟩⟩⟩)))))) (show (cf_218 38).toInt - z62.toInt < (n_218 : Int) from (oz_654393c63a hm tz62)) hw (lv_sub hl [1, 0] rfl) | (exact ih218 ma_218 cf_218 ca_218 z62 _ _ ls (show WrV cf_218 (tf 6).toInt from hwr) (show (cf_218 46).toInt = (cf 46).toInt from by first | exact k218_1 | omega) (show (cf_218 47).toInt = (cf 47).toInt from by first | exact k218_2 | omega) (show 0 ≤ (cf_218 38).toInt from by first | exact k218_3 | omega) (show (cf_218 38).toInt ≤ 260 from by first | exact k218_4 | omega) (show 0 ≤ (cf_218 48).toInt from by first | exact k218_5 | omega) (show (cf_218 48).toInt ≤ 1090 from by first | exact k218_6 | omega) (show 0 ≤ (cf_218 55).toInt from by first | exact k218_7 | omega) (show (cf_218 55).toInt ≤ 4 * (cf_218 41).toInt from by first | exact k218_8 | omega) (show 0 ≤ (cf_218 41).toInt from by first | exact k218_9 | omega) (show (cf_218 41).toInt ≤ 4096 * (cf_218 48).toInt from by first | exact k218_10 | omega) (show 0 ≤ z62.toInt from by first | exact oz_ae613611c0 tz62 k218_11 | omega) (show z62.toInt ≤ (cf_218 38).toInt from by first | exact oz_b1314744c8 nc1 tz62 | omega) (show FnT (tf 6).toInt na ca_218 (cf_218 38).toInt from (FnT.eq hft (show _ = (cf_218 38).toInt by omega))) (show FnP na ca_218 (cf_218 38).toInt from (FnP.eq hfp (by omega))) (show FqZ na ca_218 (cf_218 38).toInt (pf 24) from (FqZ.eq hfz (by omega))) (show Ann na ma0 ma_218 from han) (show TxS ca_218 (cf_218 48).toInt (cf_218 55).toInt from (TxS.eq htxs (by omega) (by omega))) (show ZTx cf_218 ta ca_218 na ma0 ma_218 (tf 6).toInt (tf 5).toInt (cf_218 38).toInt (cf_218 48).toInt sb d (pf 13).toInt (pf 24) from (fun zz => TxR_eq (hztx (by have q8 : (cf_218 30).toInt = 0 := zz; omega)) (by omega) (by omega))) (show K_mp_checkText_218 sb d tf ta pf na ma cf ca ma_218 cf_218 ca_218 z62 from (fun y_f0 y_f1 y_f2 k hE => k218_19 y_f0 y_f1 y_f2 (k + 1) (Or.inr (Or.inr (Or.inr (Or.inl ⟨rfl, x218_2, rfl, rfl, rfl, rfl, rfl, Or.inr ⟨nc1, z59, ez59, Or.inl ⟨nc60, z62, ez62, hE⟩⟩⟩)))))) (show (cf_218 38).toInt - z62.toInt < (n_218 : Int) from by first | exact oz_654393c63a hm tz62 | omega) hw (lv_sub hl [1, 0] rfl))
        · have nc60 : ¬ z59.toInt ≤ (8192 : Int) := mt (i_le (x := z59) (y := 8192)).mpr c60
          refine lv_aload_n S.x S.b d_Mpg_checkText_238 rfl (lv_at hl 0 rfl) ?_
          refine lv_bipush (v := 13) S.x S.b d_Mpg_checkText_239 (by decide) ?_
          refine lv_aload_n S.x S.b d_Mpg_checkText_241 rfl (lv_at hl 0 rfl) ?_
          refine gP_6 (v := (tf 6)) S hT hw 0 rfl rfl m9_230 d_Mpg_checkText_242 ?_
          refine lv_iconst (v := 1) S.x S.b d_Mpg_checkText_245 (by decide) ?_
          refine lv_isub S.x S.b d_Mpg_checkText_246 ?_
          have lr63 := Int32.le_toInt (tf 6)
          have ur63 := Int32.toInt_lt (tf 6)
          refine lv_topi (fun z64 ez64 => ?_)
          have tz64 : z64.toInt = ((tf 6).toInt - (1 : Int) + 2147483648) % 4294967296 - 2147483648 := by rw [ez64]; exact i_sub (tf 6) 1
          have lz64 := Int32.le_toInt z64
          have uz64 := Int32.toInt_lt z64
          try replace tz64 : z64.toInt = (tf 6).toInt - (1 : Int) := by omega
          first | refine px_callv (pr := []) (px_runV (As := [.int 13, .int z64]) (rest := []) S (c_mp_bad l D cs h r g tf ta pf na ma_218 wa ca_218 ef ea xf xa cf_218 13 z64  (show 1 ≤ (13 : Int) from oz_c11db7eac0) (show 0 ≤ z64.toInt from (oz_7c6df0c705 tz64 g2)) (show z64.toInt < (tf 6).toInt from (oz_017357d48a tz64)) htk hwr _) hT (pr := []) (pcs := [wdP cs h r g tf ta pf na ma_218 wa cf_218 ca_218 ef ea xf xa]) hw px_X.tt (px_recv hT hw 0 0 rfl rfl rfl) m12_173 m12_170 m12_172 ms_11_12 m1_21 q_Mpg_bad ⟨show 0 + 1 ≤ (6 * d + 40) from (oz_41dc904c2d), show 8 + (3 + 11) + 0 ≤ (260 * d + 1500) from (oz_4220975ee0)⟩ hl.1 rfl (Nat.le_of_ble_eq_true rfl) d_Mpg_checkText_247 ⟨Nat.le_of_ble_eq_true rfl, Nat.le_of_ble_eq_true rfl⟩) hw hA (fun p67 H locs hp67 hw => ?_) | (refine px_callv (pr := []) (px_runV (As := [.int 13, .int z64]) (rest := []) S (c_mp_bad l D cs h r g tf ta pf na ma_218 wa ca_218 ef ea xf xa cf_218 13 z64  (show 1 ≤ (13 : Int) from by first | exact oz_c11db7eac0 | omega) (show 0 ≤ z64.toInt from by first | exact oz_7c6df0c705 tz64 g2 | omega) (show z64.toInt < (tf 6).toInt from by first | exact oz_017357d48a tz64 | omega) htk hwr _) hT (pr := []) (pcs := [wdP cs h r g tf ta pf na ma_218 wa cf_218 ca_218 ef ea xf xa]) hw px_X.tt (px_recv hT hw 0 0 rfl rfl rfl) m12_173 m12_170 m12_172 ms_11_12 m1_21 q_Mpg_bad ⟨show 0 + 1 ≤ (6 * d + 40) from (by first | exact oz_41dc904c2d | omega), show 8 + (3 + 11) + 0 ≤ (260 * d + 1500) from (by first | exact oz_4220975ee0 | omega)⟩ hl.1 rfl (Nat.le_of_ble_eq_true rfl) d_Mpg_checkText_247 ⟨Nat.le_of_ble_eq_true rfl, Nat.le_of_ble_eq_true rfl⟩) hw hA (fun p67 H locs hp67 hw => ?_))
          obtain ⟨cf66, rfl, e69, e70, e71, e72, e73, e74, e75, e76, e77, e78, e79, e80, e81, e82, e83, e84, e85, e86, e87, e88⟩ := hp67
          have e69 : KpE cf_218 cf66 := e69
          have hkz_e69 := e69.2
          have hztx := Zr.kp hztx e69 id
          have e70 : WrV cf66 (tf 6).toInt := e70
          have hwr := e70
          have hw0_e70 := hwr.1
          have e71 : 1 ≤ (cf66 30).toInt := e71
          have e72 : (cf66 33).toInt = (cf_218 33).toInt := e72
          have e73 : (cf66 38).toInt = (cf_218 38).toInt := e73
          have e74 : (cf66 48).toInt = (cf_218 48).toInt := e74
          have e75 : (cf66 46).toInt = (cf_218 46).toInt := e75
          have e76 : (cf66 47).toInt = (cf_218 47).toInt := e76
          have e77 : (cf66 57).toInt = (cf_218 57).toInt := e77
          have e78 : (cf66 37).toInt = (cf_218 37).toInt := e78
          have e79 : (cf66 42).toInt = (cf_218 42).toInt := e79
          have e80 : (cf66 43).toInt = (cf_218 43).toInt := e80
          have e81 : (cf66 44).toInt = (cf_218 44).toInt := e81
          have e82 : (cf66 45).toInt = (cf_218 45).toInt := e82
          have e83 : (cf66 54).toInt = (cf_218 54).toInt := e83
          have e84 : (cf66 55).toInt = (cf_218 55).toInt := e84
          have e85 : (cf66 58).toInt = (cf_218 58).toInt := e85
          have e86 : (cf66 59).toInt = (cf_218 59).toInt := e86
          have e87 : (cf66 41).toInt = (cf_218 41).toInt := e87
          have e88 : R_mp_bad (13 : Int32) z64 cf_218 cf66 := e88
          obtain ⟨z89, ez89⟩ : ∃ y : Int32, y = x218_2 + 1 := ⟨_, rfl⟩
          have tz89 : z89.toInt = (x218_2.toInt + 1 + 2147483648) % 4294967296 - 2147483648 := by rw [ez89]; exact i_add x218_2 1
          have lz89 := Int32.le_toInt z89
          have uz89 := Int32.toInt_lt z89
          try replace tz89 : z89.toInt = x218_2.toInt + 1 := by omega
          refine lv_iinc (v := z89) (lv' := [(2, .int z89), (0, .ref h)]) S.x S.b d_Mpg_checkText_250 hl (k := 1) rfl (by rw [ez89]; rfl) (by decide) rfl (fun ls hl => ?_)
          refine lv_goto (tgt := 218) S.x S.b d_Mpg_checkText_253 (by decide) ?_
          first | exact ih218 ma_218 cf66 ca_218 z89 _ _ ls (show WrV cf66 (tf 6).toInt from hwr) (show (cf66 46).toInt = (cf 46).toInt from (oz_1687f4cc65 k218_1 e75)) (show (cf66 47).toInt = (cf 47).toInt from (oz_1687f4cc65 k218_2 e76)) (show 0 ≤ (cf66 38).toInt from (oz_f3ebed1ad0 e73 k218_3)) (show (cf66 38).toInt ≤ 260 from (oz_a3718179ed e73 k218_4)) (show 0 ≤ (cf66 48).toInt from (oz_f3ebed1ad0 e74 k218_5)) (show (cf66 48).toInt ≤ 1090 from (oz_31d6e22d67 e74 k218_6)) (show 0 ≤ (cf66 55).toInt from (oz_f3ebed1ad0 e84 k218_7)) (show (cf66 55).toInt ≤ 4 * (cf66 41).toInt from (oz_b799c596aa e84 e87 k218_8)) (show 0 ≤ (cf66 41).toInt from (oz_f3ebed1ad0 e87 k218_9)) (show (cf66 41).toInt ≤ 4096 * (cf66 48).toInt from (oz_964e82b9f4 e74 e87 k218_10)) (show 0 ≤ z89.toInt from (oz_ae613611c0 tz89 k218_11)) (show z89.toInt ≤ (cf66 38).toInt from (oz_d8df35b42d e73 tz89 nc1)) (show FnT (tf 6).toInt na ca_218 (cf66 38).toInt from (FnT.eq hft (show _ = (cf66 38).toInt by omega))) (show FnP na ca_218 (cf66 38).toInt from (FnP.eq hfp (by omega))) (show FqZ na ca_218 (cf66 38).toInt (pf 24) from (FqZ.eq hfz (by omega))) (show Ann na ma0 ma_218 from han) (show TxS ca_218 (cf66 48).toInt (cf66 55).toInt from (TxS.eq htxs (by omega) (by omega))) (show ZTx cf66 ta ca_218 na ma0 ma_218 (tf 6).toInt (tf 5).toInt (cf66 38).toInt (cf66 48).toInt sb d (pf 13).toInt (pf 24) from (fun zz => TxR_eq (hztx (by have q8 : (cf66 30).toInt = 0 := zz; omega)) (by omega) (by omega))) (show K_mp_checkText_218 sb d tf ta pf na ma cf ca ma_218 cf66 ca_218 z89 from (fun y_f0 y_f1 y_f2 k hE => k218_19 y_f0 y_f1 y_f2 (k + 1) (Or.inr (Or.inr (Or.inr (Or.inl ⟨rfl, x218_2, rfl, rfl, rfl, rfl, rfl, Or.inr ⟨nc1, z59, ez59, Or.inr ⟨nc60, z64, ez64, cf66, e88, z89, ez89, hE⟩⟩⟩)))))) (show (cf66 38).toInt - z89.toInt < (n_218 : Int) from (oz_489d83cefd hm e73 tz89)) hw (lv_sub hl [1, 0] rfl) | (exact ih218 ma_218 cf66 ca_218 z89 _ _ ls (show WrV cf66 (tf 6).toInt from hwr) (show (cf66 46).toInt = (cf 46).toInt from by first | exact oz_1687f4cc65 k218_1 e75 | omega) (show (cf66 47).toInt = (cf 47).toInt from by first | exact oz_1687f4cc65 k218_2 e76 | omega) (show 0 ≤ (cf66 38).toInt from by first | exact oz_f3ebed1ad0 e73 k218_3 | omega) (show (cf66 38).toInt ≤ 260 from by first | exact oz_a3718179ed e73 k218_4 | omega) (show 0 ≤ (cf66 48).toInt from by first | exact oz_f3ebed1ad0 e74 k218_5 | omega) (show (cf66 48).toInt ≤ 1090 from by first | exact oz_31d6e22d67 e74 k218_6 | omega) (show 0 ≤ (cf66 55).toInt from by first | exact oz_f3ebed1ad0 e84 k218_7 | omega) (show (cf66 55).toInt ≤ 4 * (cf66 41).toInt from by first | exact oz_b799c596aa e84 e87 k218_8 | omega) (show 0 ≤ (cf66 41).toInt from by first | exact oz_f3ebed1ad0 e87 k218_9 | omega) (show (cf66 41).toInt ≤ 4096 * (cf66 48).toInt from by first | exact oz_964e82b9f4 e74 e87 k218_10 | omega) (show 0 ≤ z89.toInt from by first | exact oz_ae613611c0 tz89 k218_11 | omega) (show z89.toInt ≤ (cf66 38).toInt from by first | exact oz_d8df35b42d e73 tz89 nc1 | omega) (show FnT (tf 6).toInt na ca_218 (cf66 38).toInt from (FnT.eq hft (show _ = (cf66 38).toInt by omega))) (show FnP na ca_218 (cf66 38).toInt from (FnP.eq hfp (by omega))) (show FqZ na ca_218 (cf66 38).toInt (pf 24) from (FqZ.eq hfz (by omega))) (show Ann na ma0 ma_218 from han) (show TxS ca_218 (cf66 48).toInt (cf66 55).toInt from (TxS.eq htxs (by omega) (by omega))) (show ZTx cf66 ta ca_218 na ma0 ma_218 (tf 6).toInt (tf 5).toInt (cf66 38).toInt (cf66 48).toInt sb d (pf 13).toInt (pf 24) from (fun zz => TxR_eq (hztx (by have q8 : (cf66 30).toInt = 0 := zz; omega)) (by omega) (by omega))) (show K_mp_checkText_218 sb d tf ta pf na ma cf ca ma_218 cf66 ca_218 z89 from (fun y_f0 y_f1 y_f2 k hE => k218_19 y_f0 y_f1 y_f2 (k + 1) (Or.inr (Or.inr (Or.inr (Or.inl ⟨rfl, x218_2, rfl, rfl, rfl, rfl, rfl, Or.inr ⟨nc1, z59, ez59, Or.inr ⟨nc60, z64, ez64, cf66, e88, z89, ez89, hE⟩⟩⟩)))))) (show (cf66 38).toInt - z89.toInt < (n_218 : Int) from by first | exact oz_489d83cefd hm e73 tz89 | omega) hw (lv_sub hl [1, 0] rfl))
  have J102 : ∀ (n_102 : Nat) (ma_102 : Nat → Nat → Int32) (cf_102 : Nat → Int32) (ca_102 : Nat → Nat → Int32) (mid_102 : Int) (wr_102 : Int) (nf_102 : Int) (x102_1 x102_2 : Int32) (H : Heap) (locs : List Loc) (ls : Array Slot), (WrV cf_102 (tf 6).toInt) → ((cf_102 46).toInt = (cf 46).toInt) → ((cf_102 47).toInt = (cf 47).toInt) → ((cf_102 38).toInt = nf_102) → (0 ≤ nf_102) → (nf_102 ≤ 260) → (0 ≤ (cf_102 33).toInt) → (6 * (cf_102 33).toInt + wr_102 ≤ w) → (0 ≤ (cf_102 48).toInt) → (6 * (cf_102 48).toInt + wr_102 ≤ w) → ((cf_102 37).toInt = 0) → ((cf_102 44).toInt = 0) → ((cf_102 45).toInt = 0) → ((cf_102 43).toInt = -1) → (0 ≤ x102_1.toInt) → (x102_1.toInt ≤ nf_102) → (0 ≤ (cf_102 55).toInt) → ((cf_102 55).toInt ≤ 4 * (cf_102 41).toInt) → (0 ≤ (cf_102 41).toInt) → ((cf_102 55).toInt ≤ 4096 * (cf_102 48).toInt) → ((cf_102 41).toInt ≤ 4096 * (cf_102 48).toInt) → (0 ≤ mid_102) → (mid_102 ≤ (pf 13).toInt) → (0 ≤ wr_102) → (wr_102 ≤ w) → (KnT (tf 6).toInt ca_102 (cf_102 33).toInt) → (KnS ca_102 (cf_102 33).toInt (cf_102 48).toInt 5000) → (FnT (tf 6).toInt na ca_102 (cf_102 38).toInt) → (FnP na ca_102 nf_102) → (FqE na ca_102 nf_102 x102_2 x102_1.toInt) → (FqZ na ca_102 nf_102 (pf 24)) → (Ann na ma0 ma_102) → (TxS ca_102 (cf_102 48).toInt (cf_102 55).toInt) → (RvC ta (tf 6).toInt na ma0 d mid_102 (pf 13).toInt wr_102 x102_2) → (ZFa cf_102 ta ca_102 na ma0 ma_102 (tf 6).toInt nf_102 (cf_102 48).toInt d mid_102 x102_1.toInt) → (ZPc cf_102 ta ca_102 na ma0 ma_102 nf_102 (cf_102 48).toInt mid_102 (pf 24) x102_2) → (K_mp_checkText_102 sb d tf ta pf na ma cf ca ma_102 cf_102 ca_102 x102_1 x102_2) → (pf 13).toInt - mid_102 < (n_102 : Int) → pw D A s.heap H locs [wdP cs h r g tf ta pf na ma_102 wa cf_102 ca_102 ef ea xf xa] → lv_has ls 3 [(0, .ref h), (1, .int x102_1), (2, .int x102_2)] → W p l e { frames := (6 * d + 40), cells := 0, slots := 0, locals := (260 * d + 1500) } s m [.ref h].toArray below meth c H locs 0 0 (MQ below (va_Qv (fun ps => ∃ (ma' : Nat → Nat → Int32) (cf' : Nat → Int32) (ca' : Nat → Nat → Int32), (ps = [wdP cs h r g tf ta pf na ma' wa cf' ca' ef ea xf xa]) ∧ (WrV cf' (tf 6).toInt) ∧ ((cf' 46).toInt = (cf 46).toInt) ∧ ((cf' 47).toInt = (cf 47).toInt) ∧ (0 ≤ (cf' 38).toInt) ∧ ((cf' 38).toInt ≤ 260) ∧ (0 ≤ (cf' 48).toInt) ∧ ((cf' 48).toInt ≤ 1090) ∧ (0 ≤ (cf' 55).toInt) ∧ ((cf' 55).toInt ≤ 4 * (cf' 41).toInt) ∧ ((cf' 30).toInt = 0 → (cf' 41).toInt ≤ 8192) ∧ ((cf' 30).toInt = 0 → (cf' 38).toInt ≤ 200) ∧ (FnT (tf 6).toInt na ca' (cf' 38).toInt) ∧ (FnP na ca' (cf' 38).toInt) ∧ (FqZ na ca' (cf' 38).toInt (pf 24)) ∧ (Ann na ma ma') ∧ (TxS ca' (cf' 48).toInt (cf' 55).toInt) ∧ (ZTx cf' ta ca' na ma ma' (tf 6).toInt (tf 5).toInt (cf' 38).toInt (cf' 48).toInt sb d (pf 13).toInt (pf 24)) ∧ (R_mp_checkText sb d tf ta pf na ma cf ca ma' cf' ca')) (pc_B D (va_A ([wdP cs h r g tf ta pf na ma wa cf ca ef ea xf xa] : List va_W).flatten s.heap.size)) (va_A ([wdP cs h r g tf ta pf na ma wa cf ca ef ea xf xa] : List va_W).flatten s.heap.size)) [.ref h].toArray s 0 0 A) (F0 m 102 ls []) := by
    intro  n_102
    induction n_102 with
    | zero =>
      intro ma_102 cf_102 ca_102 mid_102 wr_102 nf_102 x102_1 x102_2 H locs ls k102_0 k102_1 k102_2 k102_3 k102_4 k102_5 k102_6 k102_7 k102_8 k102_9 k102_10 k102_11 k102_12 k102_13 k102_14 k102_15 k102_16 k102_17 k102_18 k102_19 k102_20 k102_21 k102_22 k102_23 k102_24 k102_25 k102_26 k102_27 k102_28 k102_29 k102_30 k102_31 k102_32 k102_33 k102_34 k102_35 k102_36 hm hw hl
      have lx102_1 := Int32.le_toInt x102_1
      have ux102_1 := Int32.toInt_lt x102_1
      have lx102_2 := Int32.le_toInt x102_2
      have ux102_2 := Int32.toInt_lt x102_2
      have hwr := k102_0
      have hw0_k102_0 := hwr.1
      have hkt := k102_25
      have hk11_k102_25 := hkt.1
      have hks9 := k102_26
      have hft := k102_27
      have hf11 := hft.1
      have hfp := k102_28
      have hfq := k102_29
      have hfz := k102_30
      have han := k102_31
      have htxs := k102_32
      have hrc := k102_33
      have hzfa := k102_34
      have hzpc := k102_35
      exact absurd hm (by omega)
    | succ n_102 ih102 =>
      intro ma_102 cf_102 ca_102 mid_102 wr_102 nf_102 x102_1 x102_2 H locs ls k102_0 k102_1 k102_2 k102_3 k102_4 k102_5 k102_6 k102_7 k102_8 k102_9 k102_10 k102_11 k102_12 k102_13 k102_14 k102_15 k102_16 k102_17 k102_18 k102_19 k102_20 k102_21 k102_22 k102_23 k102_24 k102_25 k102_26 k102_27 k102_28 k102_29 k102_30 k102_31 k102_32 k102_33 k102_34 k102_35 k102_36 hm hw hl
      have lx102_1 := Int32.le_toInt x102_1
      have ux102_1 := Int32.toInt_lt x102_1
      have lx102_2 := Int32.le_toInt x102_2
      have ux102_2 := Int32.toInt_lt x102_2
      have hwr := k102_0
      have hw0_k102_0 := hwr.1
      have hkt := k102_25
      have hk11_k102_25 := hkt.1
      have hks9 := k102_26
      have hft := k102_27
      have hf11 := hft.1
      have hfp := k102_28
      have hfq := k102_29
      have hfz := k102_30
      have han := k102_31
      have htxs := k102_32
      have hrc := k102_33
      have hzfa := k102_34
      have hzpc := k102_35
      refine lv_iload_n S.x S.b d_Mpg_checkText_102 rfl (lv_at hl 2 rfl) ?_
      refine lv_if_lt (tgt := 197) S.x S.b d_Mpg_checkText_103 (by decide) (fun c90 => ?_) (fun c90 => ?_)
      · have nc90 : x102_2.toInt < (0 : Int) := (i_lt (x := x102_2) (y := 0)).mp c90
        refine lv_aload_n S.x S.b d_Mpg_checkText_197 rfl (lv_at hl 0 rfl) ?_
        first | refine px_calli (pr := []) (px_runV (As := []) (rest := []) S (c_mp_hasMain l D cs sk st sb h r g tf ta pf na ma_102 wa cf_102 ca_102 ef ea xf xa   (show 0 ≤ (cf_102 38).toInt from (oz_f3ebed1ad0 k102_3 k102_4)) (show (tf 6).toInt ≤ 2049 from g3) htk (FnT.eq hft (by omega)) (FnP.eq hfp (show _ = (cf_102 38).toInt by omega)) _) hT (pr := []) (pcs := [wdP cs h r g tf ta pf na ma_102 wa cf_102 ca_102 ef ea xf xa]) hw (oX_call (P := (fun A U H => (oP A g U H) ∧ ((vk_R "HomeSystemModel$Program" 688 "main" sk U ∧ oS A sk st 4 sb U H)))) (pr := []) (oG_and oG_P (oG_and oG_L oG_S)) hw hA ⟨hP, hMn⟩) (px_recv hT hw 0 0 rfl rfl rfl) m13_73 m13_70 m13_72 ms_13_15 m1_21 q_Mpg_hasMain ⟨show 7 + 1 ≤ (6 * d + 40) from (oz_4096a10e2d), show 8 + (4 + 11) + 260 ≤ (260 * d + 1500) from (oz_f949fa07e8)⟩ hl.1 rfl (Nat.le_of_ble_eq_true rfl) d_Mpg_checkText_198 ⟨Nat.le_of_ble_eq_true rfl, Nat.le_of_ble_eq_true rfl⟩) hw hA (fun v93 p92 H locs hp92 hw => ?_) | (refine px_calli (pr := []) (px_runV (As := []) (rest := []) S (c_mp_hasMain l D cs sk st sb h r g tf ta pf na ma_102 wa cf_102 ca_102 ef ea xf xa   (show 0 ≤ (cf_102 38).toInt from by first | exact oz_f3ebed1ad0 k102_3 k102_4 | omega) (show (tf 6).toInt ≤ 2049 from by first | exact g3 | omega) htk (FnT.eq hft (by omega)) (FnP.eq hfp (show _ = (cf_102 38).toInt by omega)) _) hT (pr := []) (pcs := [wdP cs h r g tf ta pf na ma_102 wa cf_102 ca_102 ef ea xf xa]) hw (oX_call (P := (fun A U H => (oP A g U H) ∧ ((vk_R "HomeSystemModel$Program" 688 "main" sk U ∧ oS A sk st 4 sb U H)))) (pr := []) (oG_and oG_P (oG_and oG_L oG_S)) hw hA ⟨hP, hMn⟩) (px_recv hT hw 0 0 rfl rfl rfl) m13_73 m13_70 m13_72 ms_13_15 m1_21 q_Mpg_hasMain ⟨show 7 + 1 ≤ (6 * d + 40) from (by first | exact oz_4096a10e2d | omega), show 8 + (4 + 11) + 260 ≤ (260 * d + 1500) from (by first | exact oz_f949fa07e8 | omega)⟩ hl.1 rfl (Nat.le_of_ble_eq_true rfl) d_Mpg_checkText_198 ⟨Nat.le_of_ble_eq_true rfl, Nat.le_of_ble_eq_true rfl⟩) hw hA (fun v93 p92 H locs hp92 hw => ?_))
        obtain ⟨rfl, e94, e95, e96⟩ := hp92
        have e94 := z_rng e94
        have e95 : HmV ta na ma_102 ca_102 (tf 5).toInt sb (cf_102 38).toInt v93.toInt := e95
        have hhm := e95
        have e96 : R_mp_hasMain sb tf ta na ma_102 cf_102 ca_102 v93 := e96
        have lv93 := Int32.le_toInt v93
        have uv93 := Int32.toInt_lt v93
        refine lv_if_ne (tgt := 216) S.x S.b d_Mpg_checkText_201 (by decide) (fun c97 => ?_) (fun c97 => ?_)
        · have nc97 : ¬ v93.toInt = (0 : Int) := mt (i_eq (x := v93) (y := 0)).mpr c97
          refine lv_iconst (v := 0) S.x S.b d_Mpg_checkText_216 (by decide) ?_
          refine lv_istore_n (lv' := [(2, .int 0), (0, .ref h), (1, .int x102_1)]) S.x S.b d_Mpg_checkText_217 rfl hl (by decide) rfl (fun ls hl => ?_)
          first | exact J218 (((cf_102 38).toInt - (0 : Int)).toNat + 1) ma_102 cf_102 ca_102 (0 : Int32) _ _ ls (show WrV cf_102 (tf 6).toInt from hwr) (show (cf_102 46).toInt = (cf 46).toInt from k102_1) (show (cf_102 47).toInt = (cf 47).toInt from k102_2) (show 0 ≤ (cf_102 38).toInt from (oz_f3ebed1ad0 k102_3 k102_4)) (show (cf_102 38).toInt ≤ 260 from hf11) (show 0 ≤ (cf_102 48).toInt from k102_8) (show (cf_102 48).toInt ≤ 1090 from (oz_ab7418934e k102_9 g9 k102_23)) (show 0 ≤ (cf_102 55).toInt from k102_16) (show (cf_102 55).toInt ≤ 4 * (cf_102 41).toInt from k102_17) (show 0 ≤ (cf_102 41).toInt from k102_18) (show (cf_102 41).toInt ≤ 4096 * (cf_102 48).toInt from k102_20) (show 0 ≤ (0 : Int) from oz_5a341f00aa) (show (0 : Int) ≤ (cf_102 38).toInt from (oz_cbd7d48f1f k102_3 k102_4)) (show FnT (tf 6).toInt na ca_102 (cf_102 38).toInt from (FnT.eq hft (show _ = (cf_102 38).toInt by omega))) (show FnP na ca_102 (cf_102 38).toInt from (FnP.eq hfp (by omega))) (show FqZ na ca_102 (cf_102 38).toInt (pf 24) from (FqZ.eq hfz (by omega))) (show Ann na ma0 ma_102 from han) (show TxS ca_102 (cf_102 48).toInt (cf_102 55).toInt from (TxS.eq htxs (by omega) (by omega))) (show ZTx cf_102 ta ca_102 na ma0 ma_102 (tf 6).toInt (tf 5).toInt (cf_102 38).toInt (cf_102 48).toInt sb d (pf 13).toInt (pf 24) from (fun zz => tx_mk (hzfa (by have q8 : (cf_102 30).toInt = 0 := zz; omega)) (hzpc (by have q8 : (cf_102 30).toInt = 0 := zz; omega)) hhm (by omega) (FqE.fin hfq (by omega)) (by omega) (by omega) (by omega) (by omega))) (show K_mp_checkText_218 sb d tf ta pf na ma cf ca ma_102 cf_102 ca_102 0 from (fun y_f0 y_f1 y_f2 k hE => k102_36 y_f0 y_f1 y_f2 (k + 1) (Or.inr (Or.inr (Or.inl ⟨rfl, x102_1, x102_2, rfl, rfl, rfl, rfl, rfl, Or.inl ⟨nc90, v93, e96, Or.inl ⟨nc97, hE⟩⟩⟩))))) (show (cf_102 38).toInt - (0 : Int) < (((((cf_102 38).toInt - (0 : Int)).toNat + 1 : Nat) : Int) : Int) from oz_natlt) hw (lv_sub hl [1, 0] rfl) | (exact J218 (((cf_102 38).toInt - (0 : Int)).toNat + 1) ma_102 cf_102 ca_102 (0 : Int32) _ _ ls (show WrV cf_102 (tf 6).toInt from hwr) (show (cf_102 46).toInt = (cf 46).toInt from by first | exact k102_1 | omega) (show (cf_102 47).toInt = (cf 47).toInt from by first | exact k102_2 | omega) (show 0 ≤ (cf_102 38).toInt from by first | exact oz_f3ebed1ad0 k102_3 k102_4 | omega) (show (cf_102 38).toInt ≤ 260 from by first | exact hf11 | omega) (show 0 ≤ (cf_102 48).toInt from by first | exact k102_8 | omega) (show (cf_102 48).toInt ≤ 1090 from by first | exact oz_ab7418934e k102_9 g9 k102_23 | omega) (show 0 ≤ (cf_102 55).toInt from by first | exact k102_16 | omega) (show (cf_102 55).toInt ≤ 4 * (cf_102 41).toInt from by first | exact k102_17 | omega) (show 0 ≤ (cf_102 41).toInt from by first | exact k102_18 | omega) (show (cf_102 41).toInt ≤ 4096 * (cf_102 48).toInt from by first | exact k102_20 | omega) (show 0 ≤ (0 : Int) from by first | exact oz_5a341f00aa | omega) (show (0 : Int) ≤ (cf_102 38).toInt from by first | exact oz_cbd7d48f1f k102_3 k102_4 | omega) (show FnT (tf 6).toInt na ca_102 (cf_102 38).toInt from (FnT.eq hft (show _ = (cf_102 38).toInt by omega))) (show FnP na ca_102 (cf_102 38).toInt from (FnP.eq hfp (by omega))) (show FqZ na ca_102 (cf_102 38).toInt (pf 24) from (FqZ.eq hfz (by omega))) (show Ann na ma0 ma_102 from han) (show TxS ca_102 (cf_102 48).toInt (cf_102 55).toInt from (TxS.eq htxs (by omega) (by omega))) (show ZTx cf_102 ta ca_102 na ma0 ma_102 (tf 6).toInt (tf 5).toInt (cf_102 38).toInt (cf_102 48).toInt sb d (pf 13).toInt (pf 24) from (fun zz => tx_mk (hzfa (by have q8 : (cf_102 30).toInt = 0 := zz; omega)) (hzpc (by have q8 : (cf_102 30).toInt = 0 := zz; omega)) hhm (by omega) (FqE.fin hfq (by omega)) (by omega) (by omega) (by omega) (by omega))) (show K_mp_checkText_218 sb d tf ta pf na ma cf ca ma_102 cf_102 ca_102 0 from (fun y_f0 y_f1 y_f2 k hE => k102_36 y_f0 y_f1 y_f2 (k + 1) (Or.inr (Or.inr (Or.inl ⟨rfl, x102_1, x102_2, rfl, rfl, rfl, rfl, rfl, Or.inl ⟨nc90, v93, e96, Or.inl ⟨nc97, hE⟩⟩⟩))))) (show (cf_102 38).toInt - (0 : Int) < (((((cf_102 38).toInt - (0 : Int)).toNat + 1 : Nat) : Int) : Int) from by first | exact oz_natlt | omega) hw (lv_sub hl [1, 0] rfl))
        · have nc97 : v93.toInt = (0 : Int) := (i_eq (x := v93) (y := 0)).mp c97
          refine lv_aload_n S.x S.b d_Mpg_checkText_204 rfl (lv_at hl 0 rfl) ?_
          refine lv_bipush (v := 12) S.x S.b d_Mpg_checkText_205 (by decide) ?_
          refine lv_aload_n S.x S.b d_Mpg_checkText_207 rfl (lv_at hl 0 rfl) ?_
          refine gP_6 (v := (tf 6)) S hT hw 0 rfl rfl m9_230 d_Mpg_checkText_208 ?_
          refine lv_iconst (v := 1) S.x S.b d_Mpg_checkText_211 (by decide) ?_
          refine lv_isub S.x S.b d_Mpg_checkText_212 ?_
          have lr99 := Int32.le_toInt (tf 6)
          have ur99 := Int32.toInt_lt (tf 6)
          refine lv_topi (fun z100 ez100 => ?_)
          have tz100 : z100.toInt = ((tf 6).toInt - (1 : Int) + 2147483648) % 4294967296 - 2147483648 := by rw [ez100]; exact i_sub (tf 6) 1
          have lz100 := Int32.le_toInt z100
          have uz100 := Int32.toInt_lt z100
          try replace tz100 : z100.toInt = (tf 6).toInt - (1 : Int) := by omega
          first | refine px_callv (pr := []) (px_runV (As := [.int 12, .int z100]) (rest := []) S (c_mp_bad l D cs h r g tf ta pf na ma_102 wa ca_102 ef ea xf xa cf_102 12 z100  (show 1 ≤ (12 : Int) from oz_dfb3d59e54) (show 0 ≤ z100.toInt from (oz_7c6df0c705 tz100 g2)) (show z100.toInt < (tf 6).toInt from (oz_017357d48a tz100)) htk hwr _) hT (pr := []) (pcs := [wdP cs h r g tf ta pf na ma_102 wa cf_102 ca_102 ef ea xf xa]) hw px_X.tt (px_recv hT hw 0 0 rfl rfl rfl) m12_173 m12_170 m12_172 ms_11_12 m1_21 q_Mpg_bad ⟨show 0 + 1 ≤ (6 * d + 40) from (oz_41dc904c2d), show 8 + (3 + 11) + 0 ≤ (260 * d + 1500) from (oz_4220975ee0)⟩ hl.1 rfl (Nat.le_of_ble_eq_true rfl) d_Mpg_checkText_213 ⟨Nat.le_of_ble_eq_true rfl, Nat.le_of_ble_eq_true rfl⟩) hw hA (fun p103 H locs hp103 hw => ?_) | (refine px_callv (pr := []) (px_runV (As := [.int 12, .int z100]) (rest := []) S (c_mp_bad l D cs h r g tf ta pf na ma_102 wa ca_102 ef ea xf xa cf_102 12 z100  (show 1 ≤ (12 : Int) from by first | exact oz_dfb3d59e54 | omega) (show 0 ≤ z100.toInt from by first | exact oz_7c6df0c705 tz100 g2 | omega) (show z100.toInt < (tf 6).toInt from by first | exact oz_017357d48a tz100 | omega) htk hwr _) hT (pr := []) (pcs := [wdP cs h r g tf ta pf na ma_102 wa cf_102 ca_102 ef ea xf xa]) hw px_X.tt (px_recv hT hw 0 0 rfl rfl rfl) m12_173 m12_170 m12_172 ms_11_12 m1_21 q_Mpg_bad ⟨show 0 + 1 ≤ (6 * d + 40) from (by first | exact oz_41dc904c2d | omega), show 8 + (3 + 11) + 0 ≤ (260 * d + 1500) from (by first | exact oz_4220975ee0 | omega)⟩ hl.1 rfl (Nat.le_of_ble_eq_true rfl) d_Mpg_checkText_213 ⟨Nat.le_of_ble_eq_true rfl, Nat.le_of_ble_eq_true rfl⟩) hw hA (fun p103 H locs hp103 hw => ?_))
          obtain ⟨cf102, rfl, e105, e106, e107, e108, e109, e110, e111, e112, e113, e114, e115, e116, e117, e118, e119, e120, e121, e122, e123, e124⟩ := hp103
          have e105 : KpE cf_102 cf102 := e105
          have hkz_e105 := e105.2
          have e106 : WrV cf102 (tf 6).toInt := e106
          have hwr := e106
          have hw0_e106 := hwr.1
          have e107 : 1 ≤ (cf102 30).toInt := e107
          have e108 : (cf102 33).toInt = (cf_102 33).toInt := e108
          have e109 : (cf102 38).toInt = (cf_102 38).toInt := e109
          have e110 : (cf102 48).toInt = (cf_102 48).toInt := e110
          have e111 : (cf102 46).toInt = (cf_102 46).toInt := e111
          have e112 : (cf102 47).toInt = (cf_102 47).toInt := e112
          have e113 : (cf102 57).toInt = (cf_102 57).toInt := e113
          have e114 : (cf102 37).toInt = (cf_102 37).toInt := e114
          have e115 : (cf102 42).toInt = (cf_102 42).toInt := e115
          have e116 : (cf102 43).toInt = (cf_102 43).toInt := e116
          have e117 : (cf102 44).toInt = (cf_102 44).toInt := e117
          have e118 : (cf102 45).toInt = (cf_102 45).toInt := e118
          have e119 : (cf102 54).toInt = (cf_102 54).toInt := e119
          have e120 : (cf102 55).toInt = (cf_102 55).toInt := e120
          have e121 : (cf102 58).toInt = (cf_102 58).toInt := e121
          have e122 : (cf102 59).toInt = (cf_102 59).toInt := e122
          have e123 : (cf102 41).toInt = (cf_102 41).toInt := e123
          have e124 : R_mp_bad (12 : Int32) z100 cf_102 cf102 := e124
          refine lv_iconst (v := 0) S.x S.b d_Mpg_checkText_216 (by decide) ?_
          refine lv_istore_n (lv' := [(2, .int 0), (0, .ref h), (1, .int x102_1)]) S.x S.b d_Mpg_checkText_217 rfl hl (by decide) rfl (fun ls hl => ?_)
          first | exact J218 (((cf102 38).toInt - (0 : Int)).toNat + 1) ma_102 cf102 ca_102 (0 : Int32) _ _ ls (show WrV cf102 (tf 6).toInt from hwr) (show (cf102 46).toInt = (cf 46).toInt from (oz_1687f4cc65 k102_1 e111)) (show (cf102 47).toInt = (cf 47).toInt from (oz_1687f4cc65 k102_2 e112)) (show 0 ≤ (cf102 38).toInt from (oz_9bcc310e9c e109 k102_3 k102_15 k102_14)) (show (cf102 38).toInt ≤ 260 from (oz_a3718179ed e109 hf11)) (show 0 ≤ (cf102 48).toInt from (oz_f3ebed1ad0 e110 k102_8)) (show (cf102 48).toInt ≤ 1090 from (oz_a03d3c3de9 e110 k102_9 g9 k102_23)) (show 0 ≤ (cf102 55).toInt from (oz_f3ebed1ad0 e120 k102_16)) (show (cf102 55).toInt ≤ 4 * (cf102 41).toInt from (oz_b799c596aa e120 e123 k102_17)) (show 0 ≤ (cf102 41).toInt from (oz_f3ebed1ad0 e123 k102_18)) (show (cf102 41).toInt ≤ 4096 * (cf102 48).toInt from (oz_964e82b9f4 e110 e123 k102_20)) (show 0 ≤ (0 : Int) from oz_5a341f00aa) (show (0 : Int) ≤ (cf102 38).toInt from (oz_1cdf1afdbd e109 k102_3 k102_15 k102_14)) (show FnT (tf 6).toInt na ca_102 (cf102 38).toInt from (FnT.eq hft (show _ = (cf102 38).toInt by omega))) (show FnP na ca_102 (cf102 38).toInt from (FnP.eq hfp (by omega))) (show FqZ na ca_102 (cf102 38).toInt (pf 24) from (FqZ.eq hfz (by omega))) (show Ann na ma0 ma_102 from han) (show TxS ca_102 (cf102 48).toInt (cf102 55).toInt from (TxS.eq htxs (by omega) (by omega))) (show ZTx cf102 ta ca_102 na ma0 ma_102 (tf 6).toInt (tf 5).toInt (cf102 38).toInt (cf102 48).toInt sb d (pf 13).toInt (pf 24) from (zr_no (by omega))) (show K_mp_checkText_218 sb d tf ta pf na ma cf ca ma_102 cf102 ca_102 0 from (fun y_f0 y_f1 y_f2 k hE => k102_36 y_f0 y_f1 y_f2 (k + 1) (Or.inr (Or.inr (Or.inl ⟨rfl, x102_1, x102_2, rfl, rfl, rfl, rfl, rfl, Or.inl ⟨nc90, v93, e96, Or.inr ⟨nc97, z100, ez100, cf102, e124, hE⟩⟩⟩))))) (show (cf102 38).toInt - (0 : Int) < (((((cf102 38).toInt - (0 : Int)).toNat + 1 : Nat) : Int) : Int) from oz_natlt) hw (lv_sub hl [1, 0] rfl) | (exact J218 (((cf102 38).toInt - (0 : Int)).toNat + 1) ma_102 cf102 ca_102 (0 : Int32) _ _ ls (show WrV cf102 (tf 6).toInt from hwr) (show (cf102 46).toInt = (cf 46).toInt from by first | exact oz_1687f4cc65 k102_1 e111 | omega) (show (cf102 47).toInt = (cf 47).toInt from by first | exact oz_1687f4cc65 k102_2 e112 | omega) (show 0 ≤ (cf102 38).toInt from by first | exact oz_9bcc310e9c e109 k102_3 k102_15 k102_14 | omega) (show (cf102 38).toInt ≤ 260 from by first | exact oz_a3718179ed e109 hf11 | omega) (show 0 ≤ (cf102 48).toInt from by first | exact oz_f3ebed1ad0 e110 k102_8 | omega) (show (cf102 48).toInt ≤ 1090 from by first | exact oz_a03d3c3de9 e110 k102_9 g9 k102_23 | omega) (show 0 ≤ (cf102 55).toInt from by first | exact oz_f3ebed1ad0 e120 k102_16 | omega) (show (cf102 55).toInt ≤ 4 * (cf102 41).toInt from by first | exact oz_b799c596aa e120 e123 k102_17 | omega) (show 0 ≤ (cf102 41).toInt from by first | exact oz_f3ebed1ad0 e123 k102_18 | omega) (show (cf102 41).toInt ≤ 4096 * (cf102 48).toInt from by first | exact oz_964e82b9f4 e110 e123 k102_20 | omega) (show 0 ≤ (0 : Int) from by first | exact oz_5a341f00aa | omega) (show (0 : Int) ≤ (cf102 38).toInt from by first | exact oz_1cdf1afdbd e109 k102_3 k102_15 k102_14 | omega) (show FnT (tf 6).toInt na ca_102 (cf102 38).toInt from (FnT.eq hft (show _ = (cf102 38).toInt by omega))) (show FnP na ca_102 (cf102 38).toInt from (FnP.eq hfp (by omega))) (show FqZ na ca_102 (cf102 38).toInt (pf 24) from (FqZ.eq hfz (by omega))) (show Ann na ma0 ma_102 from han) (show TxS ca_102 (cf102 48).toInt (cf102 55).toInt from (TxS.eq htxs (by omega) (by omega))) (show ZTx cf102 ta ca_102 na ma0 ma_102 (tf 6).toInt (tf 5).toInt (cf102 38).toInt (cf102 48).toInt sb d (pf 13).toInt (pf 24) from (zr_no (by omega))) (show K_mp_checkText_218 sb d tf ta pf na ma cf ca ma_102 cf102 ca_102 0 from (fun y_f0 y_f1 y_f2 k hE => k102_36 y_f0 y_f1 y_f2 (k + 1) (Or.inr (Or.inr (Or.inl ⟨rfl, x102_1, x102_2, rfl, rfl, rfl, rfl, rfl, Or.inl ⟨nc90, v93, e96, Or.inr ⟨nc97, z100, ez100, cf102, e124, hE⟩⟩⟩))))) (show (cf102 38).toInt - (0 : Int) < (((((cf102 38).toInt - (0 : Int)).toNat + 1 : Nat) : Int) : Int) from by first | exact oz_natlt | omega) hw (lv_sub hl [1, 0] rfl))
      · have nc90 : ¬ x102_2.toInt < (0 : Int) := mt (i_lt (x := x102_2) (y := 0)).mpr c90
        refine lv_aload_n S.x S.b d_Mpg_checkText_106 rfl (lv_at hl 0 rfl) ?_
        obtain ⟨md125, wv126, hm1_md125, hm2_md125, hm3_md125, hpc, hx3_md125, hrc2⟩ := RvE.step hrc (by omega); have hpr := PcV.rng hpc; have hpk := PcV.kind hpc; have hwp2 := RvE.wp hrc2; have hfg0 := FqE.go (n := x102_1) hfq (by omega) rfl
        refine gP_14 S hT hw 0 rfl m9_238 d_Mpg_checkText_107 ?_
        refine lv_iload_n S.x S.b d_Mpg_checkText_110 rfl (lv_at hl 2 rfl) ?_
        refine px_bald S hT hw 0 10 (n := 2100) (f := (na 14)) rfl gp_14 (x := x102_2) (vp_in_iff.mpr (by constructor <;> omega)) d_Mpg_checkText_111 ?_
        refine lv_topi (fun z127 ez127 => ?_)
        have lz127 := Int32.le_toInt z127
        have uz127 := Int32.toInt_lt z127
        have rz127 : z127.toInt = (na 14 x102_2.toNatClampNeg).toInt := (by rw [ez127])
        refine lv_bipush (v := 41) S.x S.b d_Mpg_checkText_112 (by decide) ?_
        refine lv_icmp_ne (tgt := 128) S.x S.b d_Mpg_checkText_114 (by decide) (fun c128 => ?_) (fun c128 => ?_)
        · have nc128 : ¬ z127.toInt = (41 : Int) := mt (i_eq (x := z127) (y := 41)).mpr c128
          refine lv_aload_n S.x S.b d_Mpg_checkText_128 rfl (lv_at hl 0 rfl) ?_
          refine gP_14 S hT hw 0 rfl m9_238 d_Mpg_checkText_129 ?_
          refine lv_iload_n S.x S.b d_Mpg_checkText_132 rfl (lv_at hl 2 rfl) ?_
          refine px_bald S hT hw 0 10 (n := 2100) (f := (na 14)) rfl gp_14 (x := x102_2) (vp_in_iff.mpr (by constructor <;> omega)) d_Mpg_checkText_133 ?_
          refine lv_topi (fun z130 ez130 => ?_)
          have lz130 := Int32.le_toInt z130
          have uz130 := Int32.toInt_lt z130
          have rz130 : z130.toInt = (na 14 x102_2.toNatClampNeg).toInt := (by rw [ez130])
          refine lv_bipush (v := 43) S.x S.b d_Mpg_checkText_134 (by decide) ?_
          refine lv_icmp_ne (tgt := 147) S.x S.b d_Mpg_checkText_136 (by decide) (fun c131 => ?_) (fun c131 => ?_)
          · have nc131 : ¬ z130.toInt = (43 : Int) := mt (i_eq (x := z130) (y := 43)).mpr c131
            refine lv_aload_n S.x S.b d_Mpg_checkText_147 rfl (lv_at hl 0 rfl) ?_
            refine lv_iconst (v := 0) S.x S.b d_Mpg_checkText_148 (by decide) ?_
            refine pP_42 S hT hw 0 rfl m10_33 rfl rfl rfl d_Mpg_checkText_149 (ps' := [wdP cs h r g tf ta pf na ma_102 wa (upd cf_102 42 0) ca_102 ef ea xf xa]) rfl (fun H locs hw => ?_)
            refine lv_aload_n S.x S.b d_Mpg_checkText_152 rfl (lv_at hl 0 rfl) ?_
            refine lv_aload_n S.x S.b d_Mpg_checkText_153 rfl (lv_at hl 0 rfl) ?_
            refine gP_55 (v := (cf_102 55)) S hT hw 0 rfl rfl m10_51 d_Mpg_checkText_154 ?_
            refine pP_54 S hT hw 0 rfl m10_49 rfl rfl rfl d_Mpg_checkText_157 (ps' := [wdP cs h r g tf ta pf na ma_102 wa (upd (upd cf_102 42 0) 54 (cf_102 55)) ca_102 ef ea xf xa]) rfl (fun H locs hw => ?_)
            refine lv_aload_n S.x S.b d_Mpg_checkText_160 rfl (lv_at hl 0 rfl) ?_
            refine lv_iload_n S.x S.b d_Mpg_checkText_161 rfl (lv_at hl 2 rfl) ?_
            have hdes := PcV.de hpc (by omega); have hrvd := (ScV.s23 hdes (by omega) rfl).2; have hfg1 := hfg0.2 (by omega)
            refine lv_iconst (v := 1) S.x S.b d_Mpg_checkText_162 (by decide) ?_
            first | refine px_callv (pr := []) (px_runV (As := [.int x102_2, .int 1]) (rest := []) S (c_mp_declare l D cs ma0 (cf_102 48).toInt nf_102 1 d mid_102 md125 wv126 6 h r g tf ta pf na wa ef ea xf xa ma_102 (upd (upd cf_102 42 0) 54 (cf_102 55)) ca_102 x102_2 1  (show 0 ≤ mid_102 from k102_21) (show md125 ≤ (pf 13).toInt from by omega) (show (pf 13).toInt ≤ 2100 from g1) (show (tf 6).toInt ≤ 2049 from g3) (show 0 ≤ (cf_102 33).toInt from k102_6) (show 0 ≤ wv126 from hm3_md125) (show 6 * (cf_102 33).toInt + wv126 ≤ 6540 from by omega) (show 0 ≤ (cf_102 48).toInt from k102_8) (show 6 * (cf_102 48).toInt + wv126 ≤ 6540 from by omega) (show (cf_102 38).toInt = nf_102 from k102_3) (show 0 ≤ nf_102 from k102_4) (show 0 ≤ (cf_102 37).toInt from (oz_b1de7dbe7e k102_10)) (show 0 ≤ (cf_102 55).toInt from k102_16) (show (cf_102 55).toInt ≤ 4096 * (cf_102 48).toInt from k102_19) (show 0 ≤ (0 : Int) from oz_5a341f00aa) (show (0 : Int) ≤ 4 + 4096 * (cf_102 48).toInt from (oz_3678a32be9 k102_20 k102_18)) (show 0 ≤ (cf_102 44).toInt from (oz_b1de7dbe7e k102_11)) (show 0 ≤ (cf_102 45).toInt from (oz_b1de7dbe7e k102_12)) (show (cf_102 48).toInt ≤ (cf_102 48).toInt ∨ 1 = 1 from by omega) (show 0 ≤ (cf_102 46).toInt from (oz_f3ebed1ad0 k102_1 g5)) (show (cf_102 46).toInt ≤ 1 from (oz_878017becc k102_1 g6)) (show 0 ≤ (cf_102 47).toInt from (oz_f3ebed1ad0 k102_2 g7)) (show (cf_102 47).toInt ≤ 1 from (oz_878017becc k102_2 g8)) (show 0 ≤ x102_2.toInt from (oz_18a5c06a28 nc90)) (show mid_102 ≤ x102_2.toInt from by omega) (show x102_2.toInt < md125 from by omega) (show (na 14 x102_2.toNatClampNeg).toInt = 23 from by omega) (show ((1 : Int) = 1 ∧ 6 = 6 ∧ 1 = 1) ∨ ((1 : Int) = 0 ∧ 6 = 5 ∧ 1 = 0) from by omega) htk (FsI.le (N' := (pf 13).toInt) hfs (by omega)) (WrV.u (WrV.u hwr (by decide) (by decide)) (by decide) (by decide)) (KnT.eq hkt (show _ = (cf_102 33).toInt by omega)) (FnT.eq hft (show _ = (cf_102 38).toInt by omega)) (KnS.eq (KnS.yy hks9 (by omega)) (show _ = (cf_102 33).toInt by omega) (show _ = (cf_102 48).toInt by omega)) hfp (syr_0 (Int.le_refl _)) han (show txo (cf_102 43).toInt = 1 from by unfold txo; rw [if_pos (by omega)]) hrvd _) hT (pr := []) (pcs := [wdP cs h r g tf ta pf na ma_102 wa (upd (upd cf_102 42 0) 54 (cf_102 55)) ca_102 ef ea xf xa]) hw (oX_call (P := (fun A U H => (oP A g U H))) (pr := []) oG_P hw hA hP) (px_recv hT hw 0 0 rfl rfl rfl) m13_29 m13_26 m13_28 ms_13_4 m1_21 q_Mpg_declare ⟨show (4 * d + 22) + 1 ≤ (6 * d + 40) from (oz_c42be22894), show 8 + (5 + 11) + (200 * d + 780) ≤ (260 * d + 1500) from (oz_d581d7c3e8)⟩ hl.1 rfl (Nat.le_of_ble_eq_true rfl) d_Mpg_checkText_163 ⟨Nat.le_of_ble_eq_true rfl, Nat.le_of_ble_eq_true rfl⟩) hw hA (fun p139 H locs hp139 hw => ?_) | (refine px_callv (pr := []) (px_runV (As := [.int x102_2, .int 1]) (rest := []) S (c_mp_declare l D cs ma0 (cf_102 48).toInt nf_102 1 d mid_102 md125 wv126 6 h r g tf ta pf na wa ef ea xf xa ma_102 (upd (upd cf_102 42 0) 54 (cf_102 55)) ca_102 x102_2 1  (show 0 ≤ mid_102 from by first | exact k102_21 | omega) (show md125 ≤ (pf 13).toInt from by omega) (show (pf 13).toInt ≤ 2100 from by first | exact g1 | omega) (show (tf 6).toInt ≤ 2049 from by first | exact g3 | omega) (show 0 ≤ (cf_102 33).toInt from by first | exact k102_6 | omega) (show 0 ≤ wv126 from by first | exact hm3_md125 | omega) (show 6 * (cf_102 33).toInt + wv126 ≤ 6540 from by omega) (show 0 ≤ (cf_102 48).toInt from by first | exact k102_8 | omega) (show 6 * (cf_102 48).toInt + wv126 ≤ 6540 from by omega) (show (cf_102 38).toInt = nf_102 from by first | exact k102_3 | omega) (show 0 ≤ nf_102 from by first | exact k102_4 | omega) (show 0 ≤ (cf_102 37).toInt from by first | exact oz_b1de7dbe7e k102_10 | omega) (show 0 ≤ (cf_102 55).toInt from by first | exact k102_16 | omega) (show (cf_102 55).toInt ≤ 4096 * (cf_102 48).toInt from by first | exact k102_19 | omega) (show 0 ≤ (0 : Int) from by first | exact oz_5a341f00aa | omega) (show (0 : Int) ≤ 4 + 4096 * (cf_102 48).toInt from by first | exact oz_3678a32be9 k102_20 k102_18 | omega) (show 0 ≤ (cf_102 44).toInt from by first | exact oz_b1de7dbe7e k102_11 | omega) (show 0 ≤ (cf_102 45).toInt from by first | exact oz_b1de7dbe7e k102_12 | omega) (show (cf_102 48).toInt ≤ (cf_102 48).toInt ∨ 1 = 1 from by omega) (show 0 ≤ (cf_102 46).toInt from by first | exact oz_f3ebed1ad0 k102_1 g5 | omega) (show (cf_102 46).toInt ≤ 1 from by first | exact oz_878017becc k102_1 g6 | omega) (show 0 ≤ (cf_102 47).toInt from by first | exact oz_f3ebed1ad0 k102_2 g7 | omega) (show (cf_102 47).toInt ≤ 1 from by first | exact oz_878017becc k102_2 g8 | omega) (show 0 ≤ x102_2.toInt from by first | exact oz_18a5c06a28 nc90 | omega) (show mid_102 ≤ x102_2.toInt from by omega) (show x102_2.toInt < md125 from by omega) (show (na 14 x102_2.toNatClampNeg).toInt = 23 from by omega) (show ((1 : Int) = 1 ∧ 6 = 6 ∧ 1 = 1) ∨ ((1 : Int) = 0 ∧ 6 = 5 ∧ 1 = 0) from by omega) htk (FsI.le (N' := (pf 13).toInt) hfs (by omega)) (WrV.u (WrV.u hwr (by decide) (by decide)) (by decide) (by decide)) (KnT.eq hkt (show _ = (cf_102 33).toInt by omega)) (FnT.eq hft (show _ = (cf_102 38).toInt by omega)) (KnS.eq (KnS.yy hks9 (by omega)) (show _ = (cf_102 33).toInt by omega) (show _ = (cf_102 48).toInt by omega)) hfp (syr_0 (Int.le_refl _)) han (show txo (cf_102 43).toInt = 1 from by unfold txo; rw [if_pos (by omega)]) hrvd _) hT (pr := []) (pcs := [wdP cs h r g tf ta pf na ma_102 wa (upd (upd cf_102 42 0) 54 (cf_102 55)) ca_102 ef ea xf xa]) hw (oX_call (P := (fun A U H => (oP A g U H))) (pr := []) oG_P hw hA hP) (px_recv hT hw 0 0 rfl rfl rfl) m13_29 m13_26 m13_28 ms_13_4 m1_21 q_Mpg_declare ⟨show (4 * d + 22) + 1 ≤ (6 * d + 40) from (by first | exact oz_c42be22894 | omega), show 8 + (5 + 11) + (200 * d + 780) ≤ (260 * d + 1500) from (by first | exact oz_d581d7c3e8 | omega)⟩ hl.1 rfl (Nat.le_of_ble_eq_true rfl) d_Mpg_checkText_163 ⟨Nat.le_of_ble_eq_true rfl, Nat.le_of_ble_eq_true rfl⟩) hw hA (fun p139 H locs hp139 hw => ?_))
            obtain ⟨ma136, cf137, ca138, rfl, e141, e142, e143, e144, e145, e146, e147, e148, e149, e150, e151, e152, e153, e154, e155, e156, e157, e158, e159, e160, e161, e162, e163, e164, e165, e166, e167, e168, e169, e170⟩ := hp139
            have e141 : (cf137 30).toInt = 0 → (cf_102 30).toInt = 0 := e141
            have e142 : WrV cf137 (tf 6).toInt := e142
            have hwr := e142
            have hw0_e142 := hwr.1
            have e143 : (cf137 37).toInt = (cf_102 37).toInt := e143
            have e144 : (cf137 38).toInt = (cf_102 38).toInt := e144
            have e145 : (cf137 43).toInt = (cf_102 43).toInt := e145
            have e146 : (cf137 44).toInt = (cf_102 44).toInt := e146
            have e147 : (cf137 45).toInt = (cf_102 45).toInt := e147
            have e148 : (cf137 46).toInt = (cf_102 46).toInt := e148
            have e149 : (cf137 47).toInt = (cf_102 47).toInt := e149
            have e150 : (cf137 41).toInt = (cf_102 41).toInt := e150
            have e151 : (cf137 55).toInt = (cf_102 55).toInt := e151
            have e152 : (cf137 59).toInt = (cf_102 59).toInt := e152
            have e153 : (cf_102 33).toInt ≤ (cf137 33).toInt := e153
            have e154 : 6 * (cf137 33).toInt ≤ 6 * (cf_102 33).toInt + (wv126) := e154
            have e155 : (cf_102 48).toInt ≤ (cf137 48).toInt := e155
            have e156 : 6 * (cf137 48).toInt ≤ 6 * (cf_102 48).toInt + (wv126) := e156
            have e157 : (cf_102 55).toInt ≤ (cf137 54).toInt := e157
            have e158 : (0 : Int) ≤ (cf137 42).toInt := e158
            have e159 : (cf137 54).toInt - (cf_102 55).toInt ≤ 4 * ((cf137 42).toInt - (0 : Int)) := e159
            have e160 : (cf137 54).toInt - (cf_102 55).toInt ≤ 4096 * ((cf137 48).toInt - (cf_102 48).toInt) := e160
            have e161 : (cf137 42).toInt - (0 : Int) ≤ 4096 * ((cf137 48).toInt - (cf_102 48).toInt) := e161
            have e162 : KnT (tf 6).toInt ca138 (cf137 33).toInt := e162
            have hkt := e162
            have hk11_e162 := hkt.1
            have e163 : KnS ca138 (cf137 33).toInt (cf137 48).toInt (cf_102 48).toInt := e163
            have e164 : CaG ca_102 ca138 (cf_102 33).toInt (cf_102 48).toInt := e164
            have e165 : SyR ca138 (cf_102 48).toInt (cf137 48).toInt (cf137 54).toInt 1 := e165
            have e166 : Ann na ma0 ma136 := e166
            have han := e166
            have e167 : FrC mid_102 md125 ma_102 ma136 := e167
            have hcf_e167 := (CaG.f (f := x102_1.toNatClampNeg) e164)
            first | have hcx_e167 := cl_nat (x := x102_1) (k102_14) | (have hcx_e167 := cl_nat (x := x102_1) (by first | exact k102_14 | omega))
            have hzfa : ZFa cf137 ta ca138 na ma0 ma136 (tf 6).toInt nf_102 (cf137 48).toInt d md125 x102_1.toInt := (fun q9 => FnA.tr (hzfa (by omega)) e167 (by omega) hcf_e167 (by omega) (by omega) (by omega))
            have hzpc : ZPc cf137 ta ca138 na ma0 ma136 nf_102 (cf137 48).toInt md125 (pf 24) x102_2 := (fun q9 => PcR.tr (hzpc (by omega)) e167 (by omega) hcf_e167 (by omega) (by omega))
            have hft := hft.cf hcf_e167
            have hfp := hfp.cf hcf_e167
            have hfz := hfz.cf hcf_e167
            have hfg1 := hfg1.cf hcf_e167
            have hsrx : SyR ca138 (cf_102 48).toInt (cf137 48).toInt (cf137 54).toInt 1 := e165
            have hks9 := KnS.back e163 hsrx
            have e168 : Sy3 ca138 (cf_102 48).toInt (cf137 48).toInt := e168
            have htxs := TxS.de htxs e164 hsrx e168 (by omega)
            have e169 : ZTw cf137 ta ca138 na ma0 (cf137 48).toInt (cf_102 48).toInt nf_102 ma136 mid_102 md125 (na 17 x102_2.toNatClampNeg) 6 := e169
            have e170 : R_mp_declare tf ta na x102_2 (1 : Int32) ma_102 (upd (upd cf_102 42 0) 54 (cf_102 55)) ca_102 ma136 cf137 ca138 := e170
            refine lv_aload_n S.x S.b d_Mpg_checkText_166 rfl (lv_at hl 0 rfl) ?_
            refine lv_aload_n S.x S.b d_Mpg_checkText_167 rfl (lv_at hl 0 rfl) ?_
            refine gP_54 (v := (cf137 54)) S hT hw 0 rfl rfl m10_49 d_Mpg_checkText_168 ?_
            refine pP_55 S hT hw 0 rfl m10_51 rfl rfl rfl d_Mpg_checkText_171 (ps' := [wdP cs h r g tf ta pf na ma136 wa (upd cf137 55 (cf137 54)) ca138 ef ea xf xa]) rfl (fun H locs hw => ?_)
            refine lv_aload_n S.x S.b d_Mpg_checkText_174 rfl (lv_at hl 0 rfl) ?_
            refine lv_aload_n S.x S.b d_Mpg_checkText_175 rfl (lv_at hl 0 rfl) ?_
            refine gP_41 (v := (cf137 41)) S hT hw 0 rfl rfl m10_32 d_Mpg_checkText_176 ?_
            refine lv_aload_n S.x S.b d_Mpg_checkText_179 rfl (lv_at hl 0 rfl) ?_
            refine gP_42 (v := (cf137 42)) S hT hw 0 rfl rfl m10_33 d_Mpg_checkText_180 ?_
            refine lv_iadd S.x S.b d_Mpg_checkText_183 ?_
            have lr171 := Int32.le_toInt (cf137 41)
            have ur171 := Int32.toInt_lt (cf137 41)
            have lr172 := Int32.le_toInt (cf137 42)
            have ur172 := Int32.toInt_lt (cf137 42)
            refine lv_topi (fun z173 ez173 => ?_)
            have tz173 : z173.toInt = ((cf137 41).toInt + (cf137 42).toInt + 2147483648) % 4294967296 - 2147483648 := by rw [ez173]; exact i_add (cf137 41) (cf137 42)
            have lz173 := Int32.le_toInt z173
            have uz173 := Int32.toInt_lt z173
            try replace tz173 : z173.toInt = (cf137 41).toInt + (cf137 42).toInt := by omega
            refine pP_41 S hT hw 0 rfl m10_32 rfl rfl rfl d_Mpg_checkText_184 (ps' := [wdP cs h r g tf ta pf na ma136 wa (upd (upd cf137 41 z173) 55 (cf137 54)) ca138 ef ea xf xa]) rfl (fun H locs hw => ?_)
            refine lv_aload_n S.x S.b d_Mpg_checkText_187 rfl (lv_at hl 0 rfl) ?_
            refine gP_21 S hT hw 0 rfl m10_7 d_Mpg_checkText_188 ?_
            refine lv_iload_n S.x S.b d_Mpg_checkText_191 rfl (lv_at hl 2 rfl) ?_
            refine px_iald S hT hw 0 17 (n := 2100) (f := (na 21)) rfl gp_21 (x := x102_2) (vp_in_iff.mpr (by constructor <;> omega)) d_Mpg_checkText_192 ?_
            refine lv_topi (fun z174 ez174 => ?_)
            have lz174 := Int32.le_toInt z174
            have uz174 := Int32.toInt_lt z174
            refine lv_istore_n (lv' := [(2, .int z174), (0, .ref h), (1, .int x102_1)]) S.x S.b d_Mpg_checkText_193 rfl hl (by decide) rfl (fun ls hl => ?_)
            refine lv_goto (tgt := 102) S.x S.b d_Mpg_checkText_194 (by decide) ?_
            first | exact ih102 ma136 (upd (upd cf137 41 z173) 55 (cf137 54)) ca138 md125 (wr_102 - wv126) nf_102 x102_1 z174 _ _ ls (show WrV (upd (upd cf137 41 z173) 55 (cf137 54)) (tf 6).toInt from (WrV.u (WrV.u hwr (by decide) (by decide)) (by decide) (by decide))) (show (cf137 46).toInt = (cf 46).toInt from (oz_1687f4cc65 k102_1 e148)) (show (cf137 47).toInt = (cf 47).toInt from (oz_1687f4cc65 k102_2 e149)) (show (cf137 38).toInt = nf_102 from (oz_1687f4cc65 k102_3 e144)) (show 0 ≤ nf_102 from k102_4) (show nf_102 ≤ 260 from k102_5) (show 0 ≤ (cf137 33).toInt from (oz_16d7fa9f32 e153 k102_6)) (show 6 * (cf137 33).toInt + (wr_102 - wv126) ≤ w from (oz_fb9374997e k102_7 e154)) (show 0 ≤ (cf137 48).toInt from (oz_5608f3e637 e161 k102_16 k102_17 k102_20 e157 e159)) (show 6 * (cf137 48).toInt + (wr_102 - wv126) ≤ w from (oz_fb9374997e k102_9 e156)) (show (cf137 37).toInt = 0 from (oz_4193540c58 e143 k102_10)) (show (cf137 44).toInt = 0 from (oz_4193540c58 e146 k102_11)) (show (cf137 45).toInt = 0 from (oz_4193540c58 e147 k102_12)) (show (cf137 43).toInt = -1 from (oz_a5717c4bb3 e145 k102_13)) (show 0 ≤ x102_1.toInt from k102_14) (show x102_1.toInt ≤ nf_102 from k102_15) (show 0 ≤ (cf137 54).toInt from (oz_16d7fa9f32 e157 k102_16)) (show (cf137 54).toInt ≤ 4 * z173.toInt from (oz_b9606414b9 e159 tz173 k102_17 e150)) (show 0 ≤ z173.toInt from (oz_715b55e286 tz173 e150 e159 k102_16 k102_17 e157)) (show (cf137 54).toInt ≤ 4096 * (cf137 48).toInt from (oz_c501c098b4 e160 k102_19)) (show z173.toInt ≤ 4096 * (cf137 48).toInt from (oz_22b25d5c25 e161 tz173 k102_20 e150)) (show 0 ≤ md125 from by omega) (show md125 ≤ (pf 13).toInt from by omega) (show 0 ≤ (wr_102 - wv126) from by omega) (show (wr_102 - wv126) ≤ w from (oz_b0666eb655 k102_9 e156 k102_8 e155)) (show KnT (tf 6).toInt ca138 (cf137 33).toInt from (KnT.eq hkt (by omega))) (show KnS ca138 (cf137 33).toInt (cf137 48).toInt 5000 from (KnS.eq hks9 (by omega) (by omega))) (show FnT (tf 6).toInt na ca138 (cf137 38).toInt from (FnT.eq hft (show _ = (cf137 38).toInt by omega))) (show FnP na ca138 nf_102 from (FnP.eq hfp (by omega))) (show FqE na ca138 nf_102 z174 x102_1.toInt from (FqE.eq (by rw [ez174]; exact hfg1) (by omega))) (show FqZ na ca138 nf_102 (pf 24) from (FqZ.eq hfz (by omega))) (show Ann na ma0 ma136 from han) (show TxS ca138 (cf137 48).toInt (cf137 54).toInt from (TxS.eq htxs (by omega) (by omega))) (show RvC ta (tf 6).toInt na ma0 d md125 (pf 13).toInt (wr_102 - wv126) z174 from (by rw [ez174]; exact hrc2)) (show ZFa (upd (upd cf137 41 z173) 55 (cf137 54)) ta ca138 na ma0 ma136 (tf 6).toInt nf_102 (cf137 48).toInt d md125 x102_1.toInt from (fun zz => hzfa (by have q8 : (cf137 30).toInt = 0 := zz; omega))) (show ZPc (upd (upd cf137 41 z173) 55 (cf137 54)) ta ca138 na ma0 ma136 nf_102 (cf137 48).toInt md125 (pf 24) z174 from (fun zz => PcR.nx (hzpc (by have q8 : (cf137 30).toInt = 0 := zz; omega)) (by omega) (fun _ => ⟨mid_102, md125, ⟨by omega, by omega⟩, pcd_mk e169 hsrx (by have q8 : (cf137 30).toInt = 0 := zz; omega)⟩) ez174)) (show K_mp_checkText_102 sb d tf ta pf na ma cf ca ma136 (upd (upd cf137 41 z173) 55 (cf137 54)) ca138 x102_1 z174 from (fun y_f0 y_f1 y_f2 k hE => k102_36 y_f0 y_f1 y_f2 (k + 1) (Or.inr (Or.inr (Or.inl ⟨rfl, x102_1, x102_2, rfl, rfl, rfl, rfl, rfl, Or.inr ⟨nc90, z127, ez127, Or.inl ⟨nc128, z130, ez130, Or.inl ⟨nc131, ma136, cf137, ca138, e170, z173, ez173, z174, ez174, hE⟩⟩⟩⟩))))) (show (pf 13).toInt - md125 < (n_102 : Int) from by omega) hw (lv_sub hl [1, 2, 0] rfl) | (exact ih102 ma136 (upd (upd cf137 41 z173) 55 (cf137 54)) ca138 md125 (wr_102 - wv126) nf_102 x102_1 z174 _ _ ls (show WrV (upd (upd cf137 41 z173) 55 (cf137 54)) (tf 6).toInt from (WrV.u (WrV.u hwr (by decide) (by decide)) (by decide) (by decide))) (show (cf137 46).toInt = (cf 46).toInt from by first | exact oz_1687f4cc65 k102_1 e148 | omega) (show (cf137 47).toInt = (cf 47).toInt from by first | exact oz_1687f4cc65 k102_2 e149 | omega) (show (cf137 38).toInt = nf_102 from by first | exact oz_1687f4cc65 k102_3 e144 | omega) (show 0 ≤ nf_102 from by first | exact k102_4 | omega) (show nf_102 ≤ 260 from by first | exact k102_5 | omega) (show 0 ≤ (cf137 33).toInt from by first | exact oz_16d7fa9f32 e153 k102_6 | omega) (show 6 * (cf137 33).toInt + (wr_102 - wv126) ≤ w from by first | exact oz_fb9374997e k102_7 e154 | omega) (show 0 ≤ (cf137 48).toInt from by first | exact oz_5608f3e637 e161 k102_16 k102_17 k102_20 e157 e159 | omega) (show 6 * (cf137 48).toInt + (wr_102 - wv126) ≤ w from by first | exact oz_fb9374997e k102_9 e156 | omega) (show (cf137 37).toInt = 0 from by first | exact oz_4193540c58 e143 k102_10 | omega) (show (cf137 44).toInt = 0 from by first | exact oz_4193540c58 e146 k102_11 | omega) (show (cf137 45).toInt = 0 from by first | exact oz_4193540c58 e147 k102_12 | omega) (show (cf137 43).toInt = -1 from by first | exact oz_a5717c4bb3 e145 k102_13 | omega) (show 0 ≤ x102_1.toInt from by first | exact k102_14 | omega) (show x102_1.toInt ≤ nf_102 from by first | exact k102_15 | omega) (show 0 ≤ (cf137 54).toInt from by first | exact oz_16d7fa9f32 e157 k102_16 | omega) (show (cf137 54).toInt ≤ 4 * z173.toInt from by first | exact oz_b9606414b9 e159 tz173 k102_17 e150 | omega) (show 0 ≤ z173.toInt from by first | exact oz_715b55e286 tz173 e150 e159 k102_16 k102_17 e157 | omega) (show (cf137 54).toInt ≤ 4096 * (cf137 48).toInt from by first | exact oz_c501c098b4 e160 k102_19 | omega) (show z173.toInt ≤ 4096 * (cf137 48).toInt from by first | exact oz_22b25d5c25 e161 tz173 k102_20 e150 | omega) (show 0 ≤ md125 from by omega) (show md125 ≤ (pf 13).toInt from by omega) (show 0 ≤ (wr_102 - wv126) from by omega) (show (wr_102 - wv126) ≤ w from by first | exact oz_b0666eb655 k102_9 e156 k102_8 e155 | omega) (show KnT (tf 6).toInt ca138 (cf137 33).toInt from (KnT.eq hkt (by omega))) (show KnS ca138 (cf137 33).toInt (cf137 48).toInt 5000 from (KnS.eq hks9 (by omega) (by omega))) (show FnT (tf 6).toInt na ca138 (cf137 38).toInt from (FnT.eq hft (show _ = (cf137 38).toInt by omega))) (show FnP na ca138 nf_102 from (FnP.eq hfp (by omega))) (show FqE na ca138 nf_102 z174 x102_1.toInt from (FqE.eq (by rw [ez174]; exact hfg1) (by omega))) (show FqZ na ca138 nf_102 (pf 24) from (FqZ.eq hfz (by omega))) (show Ann na ma0 ma136 from han) (show TxS ca138 (cf137 48).toInt (cf137 54).toInt from (TxS.eq htxs (by omega) (by omega))) (show RvC ta (tf 6).toInt na ma0 d md125 (pf 13).toInt (wr_102 - wv126) z174 from (by rw [ez174]; exact hrc2)) (show ZFa (upd (upd cf137 41 z173) 55 (cf137 54)) ta ca138 na ma0 ma136 (tf 6).toInt nf_102 (cf137 48).toInt d md125 x102_1.toInt from (fun zz => hzfa (by have q8 : (cf137 30).toInt = 0 := zz; omega))) (show ZPc (upd (upd cf137 41 z173) 55 (cf137 54)) ta ca138 na ma0 ma136 nf_102 (cf137 48).toInt md125 (pf 24) z174 from (fun zz => PcR.nx (hzpc (by have q8 : (cf137 30).toInt = 0 := zz; omega)) (by omega) (fun _ => ⟨mid_102, md125, ⟨by omega, by omega⟩, pcd_mk e169 hsrx (by have q8 : (cf137 30).toInt = 0 := zz; omega)⟩) ez174)) (show K_mp_checkText_102 sb d tf ta pf na ma cf ca ma136 (upd (upd cf137 41 z173) 55 (cf137 54)) ca138 x102_1 z174 from (fun y_f0 y_f1 y_f2 k hE => k102_36 y_f0 y_f1 y_f2 (k + 1) (Or.inr (Or.inr (Or.inl ⟨rfl, x102_1, x102_2, rfl, rfl, rfl, rfl, rfl, Or.inr ⟨nc90, z127, ez127, Or.inl ⟨nc128, z130, ez130, Or.inl ⟨nc131, ma136, cf137, ca138, e170, z173, ez173, z174, ez174, hE⟩⟩⟩⟩))))) (show (pf 13).toInt - md125 < (n_102 : Int) from by omega) hw (lv_sub hl [1, 2, 0] rfl))
          · have nc131 : z130.toInt = (43 : Int) := (i_eq (x := z130) (y := 43)).mp c131
            refine lv_aload_n S.x S.b d_Mpg_checkText_139 rfl (lv_at hl 0 rfl) ?_
            refine lv_iload_n S.x S.b d_Mpg_checkText_140 rfl (lv_at hl 2 rfl) ?_
            have hroe := PcV.en hpc (by omega); have hfg1 := hfg0.2 (by omega)
            first | refine px_callv (pr := []) (px_runV (As := [.int x102_2]) (rest := []) S (c_mp_checkEnum l D cs ma0 5000 nf_102 d mid_102 md125 wv126 h r g tf ta pf na wa ef ea xf xa ma_102 cf_102 ca_102 x102_2  (show 0 ≤ mid_102 from k102_21) (show md125 ≤ (pf 13).toInt from by omega) (show (pf 13).toInt ≤ 2100 from g1) (show (tf 6).toInt ≤ 2049 from g3) (show 0 ≤ (cf_102 33).toInt from k102_6) (show 0 ≤ wv126 from hm3_md125) (show 6 * (cf_102 33).toInt + wv126 ≤ 6540 from by omega) (show 0 ≤ (cf_102 48).toInt from k102_8) (show 6 * (cf_102 48).toInt ≤ 6540 from (oz_6fee9c7465 k102_9 g9 k102_23)) (show (cf_102 38).toInt = nf_102 from k102_3) (show 0 ≤ nf_102 from k102_4) (show 0 ≤ (cf_102 37).toInt from (oz_b1de7dbe7e k102_10)) (show 0 ≤ (cf_102 46).toInt from (oz_f3ebed1ad0 k102_1 g5)) (show (cf_102 46).toInt ≤ 1 from (oz_878017becc k102_1 g6)) (show 0 ≤ (cf_102 47).toInt from (oz_f3ebed1ad0 k102_2 g7)) (show (cf_102 47).toInt ≤ 1 from (oz_878017becc k102_2 g8)) (show 0 ≤ x102_2.toInt from (oz_18a5c06a28 nc90)) (show mid_102 ≤ x102_2.toInt from by omega) (show x102_2.toInt < md125 from by omega) htk (FsI.le (N' := (pf 13).toInt) hfs (by omega)) hwr (KnT.eq hkt (by omega)) (FnT.eq hft (by omega)) (KnS.eq hks9 (show _ = (cf_102 33).toInt by omega) (show _ = (cf_102 48).toInt by omega)) hfp han hroe _) hT (pr := []) (pcs := [wdP cs h r g tf ta pf na ma_102 wa cf_102 ca_102 ef ea xf xa]) hw (oX_call (P := (fun A U H => (oP A g U H))) (pr := []) oG_P hw hA hP) (px_recv hT hw 0 0 rfl rfl rfl) m13_69 m13_66 m13_68 ms_13_14 m1_21 q_Mpg_checkEnum ⟨show (4 * d + 20) + 1 ≤ (6 * d + 40) from (oz_09af4054b1), show 8 + (4 + 11) + (200 * d + 720) ≤ (260 * d + 1500) from (oz_4b9caa71e4)⟩ hl.1 rfl (Nat.le_of_ble_eq_true rfl) d_Mpg_checkText_141 ⟨Nat.le_of_ble_eq_true rfl, Nat.le_of_ble_eq_true rfl⟩) hw hA (fun p181 H locs hp181 hw => ?_) | (refine px_callv (pr := []) (px_runV (As := [.int x102_2]) (rest := []) S (c_mp_checkEnum l D cs ma0 5000 nf_102 d mid_102 md125 wv126 h r g tf ta pf na wa ef ea xf xa ma_102 cf_102 ca_102 x102_2  (show 0 ≤ mid_102 from by first | exact k102_21 | omega) (show md125 ≤ (pf 13).toInt from by omega) (show (pf 13).toInt ≤ 2100 from by first | exact g1 | omega) (show (tf 6).toInt ≤ 2049 from by first | exact g3 | omega) (show 0 ≤ (cf_102 33).toInt from by first | exact k102_6 | omega) (show 0 ≤ wv126 from by first | exact hm3_md125 | omega) (show 6 * (cf_102 33).toInt + wv126 ≤ 6540 from by omega) (show 0 ≤ (cf_102 48).toInt from by first | exact k102_8 | omega) (show 6 * (cf_102 48).toInt ≤ 6540 from by first | exact oz_6fee9c7465 k102_9 g9 k102_23 | omega) (show (cf_102 38).toInt = nf_102 from by first | exact k102_3 | omega) (show 0 ≤ nf_102 from by first | exact k102_4 | omega) (show 0 ≤ (cf_102 37).toInt from by first | exact oz_b1de7dbe7e k102_10 | omega) (show 0 ≤ (cf_102 46).toInt from by first | exact oz_f3ebed1ad0 k102_1 g5 | omega) (show (cf_102 46).toInt ≤ 1 from by first | exact oz_878017becc k102_1 g6 | omega) (show 0 ≤ (cf_102 47).toInt from by first | exact oz_f3ebed1ad0 k102_2 g7 | omega) (show (cf_102 47).toInt ≤ 1 from by first | exact oz_878017becc k102_2 g8 | omega) (show 0 ≤ x102_2.toInt from by first | exact oz_18a5c06a28 nc90 | omega) (show mid_102 ≤ x102_2.toInt from by omega) (show x102_2.toInt < md125 from by omega) htk (FsI.le (N' := (pf 13).toInt) hfs (by omega)) hwr (KnT.eq hkt (by omega)) (FnT.eq hft (by omega)) (KnS.eq hks9 (show _ = (cf_102 33).toInt by omega) (show _ = (cf_102 48).toInt by omega)) hfp han hroe _) hT (pr := []) (pcs := [wdP cs h r g tf ta pf na ma_102 wa cf_102 ca_102 ef ea xf xa]) hw (oX_call (P := (fun A U H => (oP A g U H))) (pr := []) oG_P hw hA hP) (px_recv hT hw 0 0 rfl rfl rfl) m13_69 m13_66 m13_68 ms_13_14 m1_21 q_Mpg_checkEnum ⟨show (4 * d + 20) + 1 ≤ (6 * d + 40) from (by first | exact oz_09af4054b1 | omega), show 8 + (4 + 11) + (200 * d + 720) ≤ (260 * d + 1500) from (by first | exact oz_4b9caa71e4 | omega)⟩ hl.1 rfl (Nat.le_of_ble_eq_true rfl) d_Mpg_checkText_141 ⟨Nat.le_of_ble_eq_true rfl, Nat.le_of_ble_eq_true rfl⟩) hw hA (fun p181 H locs hp181 hw => ?_))
            obtain ⟨ma178, cf179, ca180, rfl, e183, e184, e185, e186, e187, e188, e189, e190, e191, e192, e193, e194, e195, e196, e197, e198, e199, e200, e201, e202, e203, e204, e205⟩ := hp181
            have e183 : (cf179 30).toInt = 0 → (cf_102 30).toInt = 0 := e183
            have e184 : WrV cf179 (tf 6).toInt := e184
            have hwr := e184
            have hw0_e184 := hwr.1
            have e185 : (cf179 37).toInt = (cf_102 37).toInt := e185
            have e186 : (cf179 38).toInt = (cf_102 38).toInt := e186
            have e187 : (cf179 43).toInt = (cf_102 43).toInt := e187
            have e188 : (cf179 44).toInt = (cf_102 44).toInt := e188
            have e189 : (cf179 45).toInt = (cf_102 45).toInt := e189
            have e190 : (cf179 46).toInt = (cf_102 46).toInt := e190
            have e191 : (cf179 47).toInt = (cf_102 47).toInt := e191
            have e192 : (cf179 41).toInt = (cf_102 41).toInt := e192
            have e193 : (cf179 55).toInt = (cf_102 55).toInt := e193
            have e194 : (cf179 48).toInt = (cf_102 48).toInt := e194
            have e195 : (cf179 42).toInt = (cf_102 42).toInt := e195
            have e196 : (cf179 54).toInt = (cf_102 54).toInt := e196
            have e197 : (cf179 59).toInt = (cf_102 59).toInt := e197
            have e198 : (cf_102 33).toInt ≤ (cf179 33).toInt := e198
            have e199 : 6 * (cf179 33).toInt ≤ 6 * (cf_102 33).toInt + (wv126) := e199
            have e200 : KnT (tf 6).toInt ca180 (cf179 33).toInt := e200
            have hkt := e200
            have hk11_e200 := hkt.1
            have e201 : KnS ca180 (cf179 33).toInt (cf179 48).toInt 5000 := e201
            have hks9 := e201
            have e202 : CaG ca_102 ca180 (cf_102 33).toInt (cf_102 48).toInt := e202
            have e203 : Ann na ma0 ma178 := e203
            have han := e203
            have e204 : FrC mid_102 md125 ma_102 ma178 := e204
            have hcf_e204 := (CaG.f (f := x102_1.toNatClampNeg) e202)
            first | have hcx_e204 := cl_nat (x := x102_1) (k102_14) | (have hcx_e204 := cl_nat (x := x102_1) (by first | exact k102_14 | omega))
            have hzfa : ZFa cf179 ta ca180 na ma0 ma178 (tf 6).toInt nf_102 (cf179 48).toInt d md125 x102_1.toInt := (fun q9 => FnA.tr (hzfa (by omega)) e204 (by omega) hcf_e204 (by omega) (by omega) (by omega))
            have hzpc : ZPc cf179 ta ca180 na ma0 ma178 nf_102 (cf179 48).toInt md125 (pf 24) x102_2 := (fun q9 => PcR.tr (hzpc (by omega)) e204 (by omega) hcf_e204 (by omega) (by omega))
            have hft := hft.cf hcf_e204
            have hfp := hfp.cf hcf_e204
            have hfz := hfz.cf hcf_e204
            have hfg1 := hfg1.cf hcf_e204
            have htxs := TxS.cf (ns' := (cf179 48).toInt) htxs hcf_e204 (fun y9 a9 b9 => absurd b9 (by omega))
            have e205 : R_mp_checkEnum tf ta na x102_2 ma_102 cf_102 ca_102 ma178 cf179 ca180 := e205
            refine lv_goto (tgt := 187) S.x S.b d_Mpg_checkText_144 (by decide) ?_
            refine lv_aload_n S.x S.b d_Mpg_checkText_187 rfl (lv_at hl 0 rfl) ?_
            refine gP_21 S hT hw 0 rfl m10_7 d_Mpg_checkText_188 ?_
            refine lv_iload_n S.x S.b d_Mpg_checkText_191 rfl (lv_at hl 2 rfl) ?_
            refine px_iald S hT hw 0 17 (n := 2100) (f := (na 21)) rfl gp_21 (x := x102_2) (vp_in_iff.mpr (by constructor <;> omega)) d_Mpg_checkText_192 ?_
            refine lv_topi (fun z206 ez206 => ?_)
            have lz206 := Int32.le_toInt z206
            have uz206 := Int32.toInt_lt z206
            refine lv_istore_n (lv' := [(2, .int z206), (0, .ref h), (1, .int x102_1)]) S.x S.b d_Mpg_checkText_193 rfl hl (by decide) rfl (fun ls hl => ?_)
            refine lv_goto (tgt := 102) S.x S.b d_Mpg_checkText_194 (by decide) ?_
            first | exact ih102 ma178 cf179 ca180 md125 (wr_102 - wv126) nf_102 x102_1 z206 _ _ ls (show WrV cf179 (tf 6).toInt from hwr) (show (cf179 46).toInt = (cf 46).toInt from (oz_1687f4cc65 k102_1 e190)) (show (cf179 47).toInt = (cf 47).toInt from (oz_1687f4cc65 k102_2 e191)) (show (cf179 38).toInt = nf_102 from (oz_1687f4cc65 k102_3 e186)) (show 0 ≤ nf_102 from k102_4) (show nf_102 ≤ 260 from k102_5) (show 0 ≤ (cf179 33).toInt from (oz_16d7fa9f32 e198 k102_6)) (show 6 * (cf179 33).toInt + (wr_102 - wv126) ≤ w from (oz_fb9374997e k102_7 e199)) (show 0 ≤ (cf179 48).toInt from (oz_f3ebed1ad0 e194 k102_8)) (show 6 * (cf179 48).toInt + (wr_102 - wv126) ≤ w from (oz_66631b3390 k102_9 e194 e199 e198)) (show (cf179 37).toInt = 0 from (oz_4193540c58 e185 k102_10)) (show (cf179 44).toInt = 0 from (oz_4193540c58 e188 k102_11)) (show (cf179 45).toInt = 0 from (oz_4193540c58 e189 k102_12)) (show (cf179 43).toInt = -1 from (oz_a5717c4bb3 e187 k102_13)) (show 0 ≤ x102_1.toInt from k102_14) (show x102_1.toInt ≤ nf_102 from k102_15) (show 0 ≤ (cf179 55).toInt from (oz_f3ebed1ad0 e193 k102_16)) (show (cf179 55).toInt ≤ 4 * (cf179 41).toInt from (oz_f9300db2d1 e192 e193 k102_17)) (show 0 ≤ (cf179 41).toInt from (oz_f3ebed1ad0 e192 k102_18)) (show (cf179 55).toInt ≤ 4096 * (cf179 48).toInt from (oz_0778144fd0 e193 e194 k102_19)) (show (cf179 41).toInt ≤ 4096 * (cf179 48).toInt from (oz_0778144fd0 e192 e194 k102_20)) (show 0 ≤ md125 from by omega) (show md125 ≤ (pf 13).toInt from by omega) (show 0 ≤ (wr_102 - wv126) from by omega) (show (wr_102 - wv126) ≤ w from (oz_63c5da3e37 k102_9 e199 k102_8 e198)) (show KnT (tf 6).toInt ca180 (cf179 33).toInt from (KnT.eq hkt (by omega))) (show KnS ca180 (cf179 33).toInt (cf179 48).toInt 5000 from (KnS.eq hks9 (by omega) (by omega))) (show FnT (tf 6).toInt na ca180 (cf179 38).toInt from (FnT.eq hft (show _ = (cf179 38).toInt by omega))) (show FnP na ca180 nf_102 from (FnP.eq hfp (by omega))) (show FqE na ca180 nf_102 z206 x102_1.toInt from (FqE.eq (by rw [ez206]; exact hfg1) (by omega))) (show FqZ na ca180 nf_102 (pf 24) from (FqZ.eq hfz (by omega))) (show Ann na ma0 ma178 from han) (show TxS ca180 (cf179 48).toInt (cf179 55).toInt from (TxS.eq htxs (by omega) (by omega))) (show RvC ta (tf 6).toInt na ma0 d md125 (pf 13).toInt (wr_102 - wv126) z206 from (by rw [ez206]; exact hrc2)) (show ZFa cf179 ta ca180 na ma0 ma178 (tf 6).toInt nf_102 (cf179 48).toInt d md125 x102_1.toInt from (fun zz => hzfa (by have q8 : (cf179 30).toInt = 0 := zz; omega))) (show ZPc cf179 ta ca180 na ma0 ma178 nf_102 (cf179 48).toInt md125 (pf 24) z206 from (fun zz => PcR.nx (hzpc (by have q8 : (cf179 30).toInt = 0 := zz; omega)) (by omega) (fun q9 => absurd q9 (by omega)) ez206)) (show K_mp_checkText_102 sb d tf ta pf na ma cf ca ma178 cf179 ca180 x102_1 z206 from (fun y_f0 y_f1 y_f2 k hE => k102_36 y_f0 y_f1 y_f2 (k + 1) (Or.inr (Or.inr (Or.inl ⟨rfl, x102_1, x102_2, rfl, rfl, rfl, rfl, rfl, Or.inr ⟨nc90, z127, ez127, Or.inl ⟨nc128, z130, ez130, Or.inr ⟨nc131, ma178, cf179, ca180, e205, z206, ez206, hE⟩⟩⟩⟩))))) (show (pf 13).toInt - md125 < (n_102 : Int) from by omega) hw (lv_sub hl [1, 2, 0] rfl) | (exact ih102 ma178 cf179 ca180 md125 (wr_102 - wv126) nf_102 x102_1 z206 _ _ ls (show WrV cf179 (tf 6).toInt from hwr) (show (cf179 46).toInt = (cf 46).toInt from by first | exact oz_1687f4cc65 k102_1 e190 | omega) (show (cf179 47).toInt = (cf 47).toInt from by first | exact oz_1687f4cc65 k102_2 e191 | omega) (show (cf179 38).toInt = nf_102 from by first | exact oz_1687f4cc65 k102_3 e186 | omega) (show 0 ≤ nf_102 from by first | exact k102_4 | omega) (show nf_102 ≤ 260 from by first | exact k102_5 | omega) (show 0 ≤ (cf179 33).toInt from by first | exact oz_16d7fa9f32 e198 k102_6 | omega) (show 6 * (cf179 33).toInt + (wr_102 - wv126) ≤ w from by first | exact oz_fb9374997e k102_7 e199 | omega) (show 0 ≤ (cf179 48).toInt from by first | exact oz_f3ebed1ad0 e194 k102_8 | omega) (show 6 * (cf179 48).toInt + (wr_102 - wv126) ≤ w from by first | exact oz_66631b3390 k102_9 e194 e199 e198 | omega) (show (cf179 37).toInt = 0 from by first | exact oz_4193540c58 e185 k102_10 | omega) (show (cf179 44).toInt = 0 from by first | exact oz_4193540c58 e188 k102_11 | omega) (show (cf179 45).toInt = 0 from by first | exact oz_4193540c58 e189 k102_12 | omega) (show (cf179 43).toInt = -1 from by first | exact oz_a5717c4bb3 e187 k102_13 | omega) (show 0 ≤ x102_1.toInt from by first | exact k102_14 | omega) (show x102_1.toInt ≤ nf_102 from by first | exact k102_15 | omega) (show 0 ≤ (cf179 55).toInt from by first | exact oz_f3ebed1ad0 e193 k102_16 | omega) (show (cf179 55).toInt ≤ 4 * (cf179 41).toInt from by first | exact oz_f9300db2d1 e192 e193 k102_17 | omega) (show 0 ≤ (cf179 41).toInt from by first | exact oz_f3ebed1ad0 e192 k102_18 | omega) (show (cf179 55).toInt ≤ 4096 * (cf179 48).toInt from by first | exact oz_0778144fd0 e193 e194 k102_19 | omega) (show (cf179 41).toInt ≤ 4096 * (cf179 48).toInt from by first | exact oz_0778144fd0 e192 e194 k102_20 | omega) (show 0 ≤ md125 from by omega) (show md125 ≤ (pf 13).toInt from by omega) (show 0 ≤ (wr_102 - wv126) from by omega) (show (wr_102 - wv126) ≤ w from by first | exact oz_63c5da3e37 k102_9 e199 k102_8 e198 | omega) (show KnT (tf 6).toInt ca180 (cf179 33).toInt from (KnT.eq hkt (by omega))) (show KnS ca180 (cf179 33).toInt (cf179 48).toInt 5000 from (KnS.eq hks9 (by omega) (by omega))) (show FnT (tf 6).toInt na ca180 (cf179 38).toInt from (FnT.eq hft (show _ = (cf179 38).toInt by omega))) (show FnP na ca180 nf_102 from (FnP.eq hfp (by omega))) (show FqE na ca180 nf_102 z206 x102_1.toInt from (FqE.eq (by rw [ez206]; exact hfg1) (by omega))) (show FqZ na ca180 nf_102 (pf 24) from (FqZ.eq hfz (by omega))) (show Ann na ma0 ma178 from han) (show TxS ca180 (cf179 48).toInt (cf179 55).toInt from (TxS.eq htxs (by omega) (by omega))) (show RvC ta (tf 6).toInt na ma0 d md125 (pf 13).toInt (wr_102 - wv126) z206 from (by rw [ez206]; exact hrc2)) (show ZFa cf179 ta ca180 na ma0 ma178 (tf 6).toInt nf_102 (cf179 48).toInt d md125 x102_1.toInt from (fun zz => hzfa (by have q8 : (cf179 30).toInt = 0 := zz; omega))) (show ZPc cf179 ta ca180 na ma0 ma178 nf_102 (cf179 48).toInt md125 (pf 24) z206 from (fun zz => PcR.nx (hzpc (by have q8 : (cf179 30).toInt = 0 := zz; omega)) (by omega) (fun q9 => absurd q9 (by omega)) ez206)) (show K_mp_checkText_102 sb d tf ta pf na ma cf ca ma178 cf179 ca180 x102_1 z206 from (fun y_f0 y_f1 y_f2 k hE => k102_36 y_f0 y_f1 y_f2 (k + 1) (Or.inr (Or.inr (Or.inl ⟨rfl, x102_1, x102_2, rfl, rfl, rfl, rfl, rfl, Or.inr ⟨nc90, z127, ez127, Or.inl ⟨nc128, z130, ez130, Or.inr ⟨nc131, ma178, cf179, ca180, e205, z206, ez206, hE⟩⟩⟩⟩))))) (show (pf 13).toInt - md125 < (n_102 : Int) from by omega) hw (lv_sub hl [1, 2, 0] rfl))
        · have nc128 : z127.toInt = (41 : Int) := (i_eq (x := z127) (y := 41)).mp c128
          refine lv_aload_n S.x S.b d_Mpg_checkText_117 rfl (lv_at hl 0 rfl) ?_
          refine lv_iload_n S.x S.b d_Mpg_checkText_118 rfl (lv_at hl 1 rfl) ?_
          have hfu := PcV.fu hpc (by omega); have hfg := hfg0.1 (by omega); have hfg1 := hfg.2.2
          first | refine px_callv (pr := []) (px_runV (As := [.int x102_1]) (rest := []) S (c_mp_checkFunction l D cs ma0 nf_102 d mid_102 md125 wv126 h r g tf ta pf na wa ef ea xf xa ma_102 cf_102 ca_102 x102_1  (show 0 ≤ mid_102 from k102_21) (show md125 ≤ (pf 13).toInt from by omega) (show (pf 13).toInt ≤ 2100 from g1) (show (tf 6).toInt ≤ 2049 from g3) (show 0 ≤ (cf_102 33).toInt from k102_6) (show 0 ≤ wv126 from hm3_md125) (show 6 * (cf_102 33).toInt + wv126 ≤ 6540 from by omega) (show 0 ≤ (cf_102 48).toInt from k102_8) (show 6 * (cf_102 48).toInt + wv126 ≤ 6540 from by omega) (show (cf_102 38).toInt = nf_102 from k102_3) (show 0 ≤ nf_102 from k102_4) (show 0 ≤ (cf_102 37).toInt from (oz_b1de7dbe7e k102_10)) (show (cf_102 44).toInt = 0 from k102_11) (show (cf_102 45).toInt = 0 from k102_12) (show 0 ≤ (cf_102 46).toInt from (oz_f3ebed1ad0 k102_1 g5)) (show (cf_102 46).toInt ≤ 1 from (oz_878017becc k102_1 g6)) (show 0 ≤ (cf_102 47).toInt from (oz_f3ebed1ad0 k102_2 g7)) (show (cf_102 47).toInt ≤ 1 from (oz_878017becc k102_2 g8)) (show 0 ≤ x102_1.toInt from k102_14) (show x102_1.toInt < nf_102 from by omega) (show (d : Int) ≤ 300 from g10) htk (FsI.le (N' := (pf 13).toInt) hfs (by omega)) hwr (KnT.eq hkt (by omega)) (FnT.eq hft (by omega)) (KnS.eq hks9 (show _ = (cf_102 33).toInt by omega) (show _ = (cf_102 48).toInt by omega)) hfp han (by rw [hfg.2.1]; exact hfu) _) hT (pr := []) (pcs := [wdP cs h r g tf ta pf na ma_102 wa cf_102 ca_102 ef ea xf xa]) hw (oX_call (P := (fun A U H => (oP A g U H))) (pr := []) oG_P hw hA hP) (px_recv hT hw 0 0 rfl rfl rfl) m12_153 m12_150 m12_152 ms_11_7 m1_21 q_Mpg_checkFunction ⟨show (6 * d + 30) + 1 ≤ (6 * d + 40) from (oz_6673da8225), show 8 + (9 + 11) + (260 * d + 1200) ≤ (260 * d + 1500) from (oz_153672599c)⟩ hl.1 rfl (Nat.le_of_ble_eq_true rfl) d_Mpg_checkText_119 ⟨Nat.le_of_ble_eq_true rfl, Nat.le_of_ble_eq_true rfl⟩) hw hA (fun p213 H locs hp213 hw => ?_) | (refine px_callv (pr := []) (px_runV (As := [.int x102_1]) (rest := []) S (c_mp_checkFunction l D cs ma0 nf_102 d mid_102 md125 wv126 h r g tf ta pf na wa ef ea xf xa ma_102 cf_102 ca_102 x102_1  (show 0 ≤ mid_102 from by first | exact k102_21 | omega) (show md125 ≤ (pf 13).toInt from by omega) (show (pf 13).toInt ≤ 2100 from by first | exact g1 | omega) (show (tf 6).toInt ≤ 2049 from by first | exact g3 | omega) (show 0 ≤ (cf_102 33).toInt from by first | exact k102_6 | omega) (show 0 ≤ wv126 from by first | exact hm3_md125 | omega) (show 6 * (cf_102 33).toInt + wv126 ≤ 6540 from by omega) (show 0 ≤ (cf_102 48).toInt from by first | exact k102_8 | omega) (show 6 * (cf_102 48).toInt + wv126 ≤ 6540 from by omega) (show (cf_102 38).toInt = nf_102 from by first | exact k102_3 | omega) (show 0 ≤ nf_102 from by first | exact k102_4 | omega) (show 0 ≤ (cf_102 37).toInt from by first | exact oz_b1de7dbe7e k102_10 | omega) (show (cf_102 44).toInt = 0 from by first | exact k102_11 | omega) (show (cf_102 45).toInt = 0 from by first | exact k102_12 | omega) (show 0 ≤ (cf_102 46).toInt from by first | exact oz_f3ebed1ad0 k102_1 g5 | omega) (show (cf_102 46).toInt ≤ 1 from by first | exact oz_878017becc k102_1 g6 | omega) (show 0 ≤ (cf_102 47).toInt from by first | exact oz_f3ebed1ad0 k102_2 g7 | omega) (show (cf_102 47).toInt ≤ 1 from by first | exact oz_878017becc k102_2 g8 | omega) (show 0 ≤ x102_1.toInt from by first | exact k102_14 | omega) (show x102_1.toInt < nf_102 from by omega) (show (d : Int) ≤ 300 from by first | exact g10 | omega) htk (FsI.le (N' := (pf 13).toInt) hfs (by omega)) hwr (KnT.eq hkt (by omega)) (FnT.eq hft (by omega)) (KnS.eq hks9 (show _ = (cf_102 33).toInt by omega) (show _ = (cf_102 48).toInt by omega)) hfp han (by rw [hfg.2.1]; exact hfu) _) hT (pr := []) (pcs := [wdP cs h r g tf ta pf na ma_102 wa cf_102 ca_102 ef ea xf xa]) hw (oX_call (P := (fun A U H => (oP A g U H))) (pr := []) oG_P hw hA hP) (px_recv hT hw 0 0 rfl rfl rfl) m12_153 m12_150 m12_152 ms_11_7 m1_21 q_Mpg_checkFunction ⟨show (6 * d + 30) + 1 ≤ (6 * d + 40) from (by first | exact oz_6673da8225 | omega), show 8 + (9 + 11) + (260 * d + 1200) ≤ (260 * d + 1500) from (by first | exact oz_153672599c | omega)⟩ hl.1 rfl (Nat.le_of_ble_eq_true rfl) d_Mpg_checkText_119 ⟨Nat.le_of_ble_eq_true rfl, Nat.le_of_ble_eq_true rfl⟩) hw hA (fun p213 H locs hp213 hw => ?_))
          obtain ⟨ma210, cf211, ca212, rfl, e215, e216, e217, e218, e219, e220, e221, e222, e223, e224, e225, e226, e227, e228, e229, e230, e231, e232, e233, e234, e235, e236, e237⟩ := hp213
          have e215 : (cf211 30).toInt = 0 → (cf_102 30).toInt = 0 := e215
          have e216 : WrV cf211 (tf 6).toInt := e216
          have hwr := e216
          have hw0_e216 := hwr.1
          have e217 : (cf211 33).toInt = (cf_102 33).toInt := e217
          have e218 : (cf211 37).toInt = (cf_102 37).toInt := e218
          have e219 : (cf211 38).toInt = (cf_102 38).toInt := e219
          have e220 : (cf211 41).toInt = (cf_102 41).toInt := e220
          have e221 : (cf211 44).toInt = (cf_102 44).toInt := e221
          have e222 : (cf211 45).toInt = (cf_102 45).toInt := e222
          have e223 : (cf211 46).toInt = (cf_102 46).toInt := e223
          have e224 : (cf211 47).toInt = (cf_102 47).toInt := e224
          have e225 : (cf211 55).toInt = (cf_102 55).toInt := e225
          have e226 : (cf211 43).toInt = -1 := e226
          have e227 : (cf_102 48).toInt ≤ (cf211 48).toInt := e227
          have e228 : 6 * (cf211 48).toInt ≤ 6 * (cf_102 48).toInt + wv126 := e228
          have e229 : KnT (tf 6).toInt ca212 (cf211 33).toInt := e229
          have hkt := e229
          have hk11_e229 := hkt.1
          have e230 : KnS ca212 (cf211 33).toInt (cf211 48).toInt 5000 := e230
          have hks9 := e230
          have e231 : CaF ca_102 ca212 (cf_102 33).toInt (cf_102 48).toInt x102_1.toNatClampNeg := e231
          have e232 : Ann na ma0 ma210 := e232
          have han := e232
          have e233 : FrC mid_102 md125 ma_102 ma210 := e233
          have hcf_e233 := e231
          first | have hcx_e233 := cl_nat (x := x102_1) (k102_14) | (have hcx_e233 := cl_nat (x := x102_1) (by first | exact k102_14 | omega))
          have hzfa : ZFa cf211 ta ca212 na ma0 ma210 (tf 6).toInt nf_102 (cf211 48).toInt d md125 x102_1.toInt := (fun q9 => FnA.tr (hzfa (by omega)) e233 (by omega) hcf_e233 (by omega) (by omega) (by omega))
          have hzpc : ZPc cf211 ta ca212 na ma0 ma210 nf_102 (cf211 48).toInt md125 (pf 24) x102_2 := (fun q9 => PcR.tr (hzpc (by omega)) e233 (by omega) hcf_e233 (by omega) (by omega))
          have hft := hft.cf hcf_e233
          have hfp := hfp.cf hcf_e233
          have hfz := hfz.cf hcf_e233
          have hfg1 := hfg1.cf hcf_e233
          have e234 : ZFn cf211 ta ca212 na ma0 ma210 nf_102 (cf211 48).toInt mid_102 md125 d x102_1 := e234
          have hfun : FuV ta (tf 6).toInt na ma0 d mid_102 md125 wv126 (ca212 39 x102_1.toNatClampNeg) := (by rw [(e231.1 _).1, hfg.2.1]; exact hfu)
          have hzfn := e234
          have e235 : ZFu cf211 ta na ca_102 x102_1 := e235
          have e236 : Sy0 ca212 (cf_102 48).toInt (cf211 48).toInt := e236
          have htxs := TxS.cf htxs e231 e236
          have e237 : R_mp_checkFunction d tf ta na x102_1 ma_102 cf_102 ca_102 ma210 cf211 ca212 := e237
          obtain ⟨z238, ez238⟩ : ∃ y : Int32, y = x102_1 + 1 := ⟨_, rfl⟩
          have tz238 : z238.toInt = (x102_1.toInt + 1 + 2147483648) % 4294967296 - 2147483648 := by rw [ez238]; exact i_add x102_1 1
          have lz238 := Int32.le_toInt z238
          have uz238 := Int32.toInt_lt z238
          try replace tz238 : z238.toInt = x102_1.toInt + 1 := by omega
          refine lv_iinc (v := z238) (lv' := [(1, .int z238), (0, .ref h), (2, .int x102_2)]) S.x S.b d_Mpg_checkText_122 hl (k := 1) rfl (by rw [ez238]; rfl) (by decide) rfl (fun ls hl => ?_)
          refine lv_goto (tgt := 187) S.x S.b d_Mpg_checkText_125 (by decide) ?_
          refine lv_aload_n S.x S.b d_Mpg_checkText_187 rfl (lv_at hl 1 rfl) ?_
          refine gP_21 S hT hw 0 rfl m10_7 d_Mpg_checkText_188 ?_
          refine lv_iload_n S.x S.b d_Mpg_checkText_191 rfl (lv_at hl 2 rfl) ?_
          refine px_iald S hT hw 0 17 (n := 2100) (f := (na 21)) rfl gp_21 (x := x102_2) (vp_in_iff.mpr (by constructor <;> omega)) d_Mpg_checkText_192 ?_
          refine lv_topi (fun z239 ez239 => ?_)
          have lz239 := Int32.le_toInt z239
          have uz239 := Int32.toInt_lt z239
          refine lv_istore_n (lv' := [(2, .int z239), (1, .int z238), (0, .ref h)]) S.x S.b d_Mpg_checkText_193 rfl hl (by decide) rfl (fun ls hl => ?_)
          refine lv_goto (tgt := 102) S.x S.b d_Mpg_checkText_194 (by decide) ?_
          first | exact ih102 ma210 cf211 ca212 md125 (wr_102 - wv126) nf_102 z238 z239 _ _ ls (show WrV cf211 (tf 6).toInt from hwr) (show (cf211 46).toInt = (cf 46).toInt from (oz_1687f4cc65 k102_1 e223)) (show (cf211 47).toInt = (cf 47).toInt from (oz_1687f4cc65 k102_2 e224)) (show (cf211 38).toInt = nf_102 from (oz_1687f4cc65 k102_3 e219)) (show 0 ≤ nf_102 from k102_4) (show nf_102 ≤ 260 from k102_5) (show 0 ≤ (cf211 33).toInt from (oz_f3ebed1ad0 e217 k102_6)) (show 6 * (cf211 33).toInt + (wr_102 - wv126) ≤ w from (oz_e39ac9ea3f k102_7 e217 e228 e227)) (show 0 ≤ (cf211 48).toInt from (oz_16d7fa9f32 e227 k102_8)) (show 6 * (cf211 48).toInt + (wr_102 - wv126) ≤ w from (oz_09655d0a70 k102_9 e228)) (show (cf211 37).toInt = 0 from (oz_4193540c58 e218 k102_10)) (show (cf211 44).toInt = 0 from (oz_4193540c58 e221 k102_11)) (show (cf211 45).toInt = 0 from (oz_4193540c58 e222 k102_12)) (show (cf211 43).toInt = -1 from e226) (show 0 ≤ z238.toInt from (oz_ae613611c0 tz238 k102_14)) (show z238.toInt ≤ nf_102 from by omega) (show 0 ≤ (cf211 55).toInt from (oz_f3ebed1ad0 e225 k102_16)) (show (cf211 55).toInt ≤ 4 * (cf211 41).toInt from (oz_f9300db2d1 e220 e225 k102_17)) (show 0 ≤ (cf211 41).toInt from (oz_f3ebed1ad0 e220 k102_18)) (show (cf211 55).toInt ≤ 4096 * (cf211 48).toInt from (oz_d83d6a23a0 e225 e227 k102_19)) (show (cf211 41).toInt ≤ 4096 * (cf211 48).toInt from (oz_d83d6a23a0 e220 e227 k102_20)) (show 0 ≤ md125 from by omega) (show md125 ≤ (pf 13).toInt from by omega) (show 0 ≤ (wr_102 - wv126) from by omega) (show (wr_102 - wv126) ≤ w from (oz_24514a91eb k102_9 e228 k102_8 e227)) (show KnT (tf 6).toInt ca212 (cf211 33).toInt from (KnT.eq hkt (by omega))) (show KnS ca212 (cf211 33).toInt (cf211 48).toInt 5000 from (KnS.eq hks9 (by omega) (by omega))) (show FnT (tf 6).toInt na ca212 (cf211 38).toInt from (FnT.eq hft (show _ = (cf211 38).toInt by omega))) (show FnP na ca212 nf_102 from (FnP.eq hfp (by omega))) (show FqE na ca212 nf_102 z239 z238.toInt from (FqE.eq (by rw [ez239]; exact hfg1) (by omega))) (show FqZ na ca212 nf_102 (pf 24) from (FqZ.eq hfz (by omega))) (show Ann na ma0 ma210 from han) (show TxS ca212 (cf211 48).toInt (cf211 55).toInt from (TxS.eq htxs (by omega) (by omega))) (show RvC ta (tf 6).toInt na ma0 d md125 (pf 13).toInt (wr_102 - wv126) z239 from (by rw [ez239]; exact hrc2)) (show ZFa cf211 ta ca212 na ma0 ma210 (tf 6).toInt nf_102 (cf211 48).toInt d md125 z238.toInt from (fun zz => FnA.nx (hzfa (by have q8 : (cf211 30).toInt = 0 := zz; omega)) (fn := x102_1) rfl (by omega) (by omega) ⟨by omega, by omega⟩ hfun (hzfn (by have q8 : (cf211 30).toInt = 0 := zz; omega)) (fun j9 h9 => by rw [(e231.1 _).1, (e231.1 _).1]; exact e235 (by have q8 : (cf211 30).toInt = 0 := zz; omega) j9 h9))) (show ZPc cf211 ta ca212 na ma0 ma210 nf_102 (cf211 48).toInt md125 (pf 24) z239 from (fun zz => PcR.nx (hzpc (by have q8 : (cf211 30).toInt = 0 := zz; omega)) (by omega) (fun q9 => absurd q9 (by omega)) ez239)) (show K_mp_checkText_102 sb d tf ta pf na ma cf ca ma210 cf211 ca212 z238 z239 from (fun y_f0 y_f1 y_f2 k hE => k102_36 y_f0 y_f1 y_f2 (k + 1) (Or.inr (Or.inr (Or.inl ⟨rfl, x102_1, x102_2, rfl, rfl, rfl, rfl, rfl, Or.inr ⟨nc90, z127, ez127, Or.inr ⟨nc128, ma210, cf211, ca212, e237, z238, ez238, z239, ez239, hE⟩⟩⟩))))) (show (pf 13).toInt - md125 < (n_102 : Int) from by omega) hw (lv_sub hl [2, 1, 0] rfl) | (exact ih102 ma210 cf211 ca212 md125 (wr_102 - wv126) nf_102 z238 z239 _ _ ls (show WrV cf211 (tf 6).toInt from hwr) (show (cf211 46).toInt = (cf 46).toInt from by first | exact oz_1687f4cc65 k102_1 e223 | omega) (show (cf211 47).toInt = (cf 47).toInt from by first | exact oz_1687f4cc65 k102_2 e224 | omega) (show (cf211 38).toInt = nf_102 from by first | exact oz_1687f4cc65 k102_3 e219 | omega) (show 0 ≤ nf_102 from by first | exact k102_4 | omega) (show nf_102 ≤ 260 from by first | exact k102_5 | omega) (show 0 ≤ (cf211 33).toInt from by first | exact oz_f3ebed1ad0 e217 k102_6 | omega) (show 6 * (cf211 33).toInt + (wr_102 - wv126) ≤ w from by first | exact oz_e39ac9ea3f k102_7 e217 e228 e227 | omega) (show 0 ≤ (cf211 48).toInt from by first | exact oz_16d7fa9f32 e227 k102_8 | omega) (show 6 * (cf211 48).toInt + (wr_102 - wv126) ≤ w from by first | exact oz_09655d0a70 k102_9 e228 | omega) (show (cf211 37).toInt = 0 from by first | exact oz_4193540c58 e218 k102_10 | omega) (show (cf211 44).toInt = 0 from by first | exact oz_4193540c58 e221 k102_11 | omega) (show (cf211 45).toInt = 0 from by first | exact oz_4193540c58 e222 k102_12 | omega) (show (cf211 43).toInt = -1 from by first | exact e226 | omega) (show 0 ≤ z238.toInt from by first | exact oz_ae613611c0 tz238 k102_14 | omega) (show z238.toInt ≤ nf_102 from by omega) (show 0 ≤ (cf211 55).toInt from by first | exact oz_f3ebed1ad0 e225 k102_16 | omega) (show (cf211 55).toInt ≤ 4 * (cf211 41).toInt from by first | exact oz_f9300db2d1 e220 e225 k102_17 | omega) (show 0 ≤ (cf211 41).toInt from by first | exact oz_f3ebed1ad0 e220 k102_18 | omega) (show (cf211 55).toInt ≤ 4096 * (cf211 48).toInt from by first | exact oz_d83d6a23a0 e225 e227 k102_19 | omega) (show (cf211 41).toInt ≤ 4096 * (cf211 48).toInt from by first | exact oz_d83d6a23a0 e220 e227 k102_20 | omega) (show 0 ≤ md125 from by omega) (show md125 ≤ (pf 13).toInt from by omega) (show 0 ≤ (wr_102 - wv126) from by omega) (show (wr_102 - wv126) ≤ w from by first | exact oz_24514a91eb k102_9 e228 k102_8 e227 | omega) (show KnT (tf 6).toInt ca212 (cf211 33).toInt from (KnT.eq hkt (by omega))) (show KnS ca212 (cf211 33).toInt (cf211 48).toInt 5000 from (KnS.eq hks9 (by omega) (by omega))) (show FnT (tf 6).toInt na ca212 (cf211 38).toInt from (FnT.eq hft (show _ = (cf211 38).toInt by omega))) (show FnP na ca212 nf_102 from (FnP.eq hfp (by omega))) (show FqE na ca212 nf_102 z239 z238.toInt from (FqE.eq (by rw [ez239]; exact hfg1) (by omega))) (show FqZ na ca212 nf_102 (pf 24) from (FqZ.eq hfz (by omega))) (show Ann na ma0 ma210 from han) (show TxS ca212 (cf211 48).toInt (cf211 55).toInt from (TxS.eq htxs (by omega) (by omega))) (show RvC ta (tf 6).toInt na ma0 d md125 (pf 13).toInt (wr_102 - wv126) z239 from (by rw [ez239]; exact hrc2)) (show ZFa cf211 ta ca212 na ma0 ma210 (tf 6).toInt nf_102 (cf211 48).toInt d md125 z238.toInt from (fun zz => FnA.nx (hzfa (by have q8 : (cf211 30).toInt = 0 := zz; omega)) (fn := x102_1) rfl (by omega) (by omega) ⟨by omega, by omega⟩ hfun (hzfn (by have q8 : (cf211 30).toInt = 0 := zz; omega)) (fun j9 h9 => by rw [(e231.1 _).1, (e231.1 _).1]; exact e235 (by have q8 : (cf211 30).toInt = 0 := zz; omega) j9 h9))) (show ZPc cf211 ta ca212 na ma0 ma210 nf_102 (cf211 48).toInt md125 (pf 24) z239 from (fun zz => PcR.nx (hzpc (by have q8 : (cf211 30).toInt = 0 := zz; omega)) (by omega) (fun q9 => absurd q9 (by omega)) ez239)) (show K_mp_checkText_102 sb d tf ta pf na ma cf ca ma210 cf211 ca212 z238 z239 from (fun y_f0 y_f1 y_f2 k hE => k102_36 y_f0 y_f1 y_f2 (k + 1) (Or.inr (Or.inr (Or.inl ⟨rfl, x102_1, x102_2, rfl, rfl, rfl, rfl, rfl, Or.inr ⟨nc90, z127, ez127, Or.inr ⟨nc128, ma210, cf211, ca212, e237, z238, ez238, z239, ez239, hE⟩⟩⟩))))) (show (pf 13).toInt - md125 < (n_102 : Int) from by omega) hw (lv_sub hl [2, 1, 0] rfl))
  have J10 : ∀ (n_10 : Nat) (cf_10 : Nat → Int32) (ca_10 : Nat → Nat → Int32) (mid_10 : Int) (wr_10 : Int) (x10_1 : Int32) (H : Heap) (locs : List Loc) (ls : Array Slot), ((cf_10 30).toInt = (cf 30).toInt) → ((cf_10 31).toInt = (cf 31).toInt) → ((cf_10 46).toInt = (cf 46).toInt) → ((cf_10 47).toInt = (cf 47).toInt) → (0 ≤ (cf_10 38).toInt) → (24 * (cf_10 38).toInt + wr_10 ≤ w) → (0 ≤ mid_10) → (mid_10 ≤ (pf 13).toInt) → (0 ≤ wr_10) → (WrV cf_10 (tf 6).toInt) → (FnT (tf 6).toInt na ca_10 (cf_10 38).toInt) → (FnP na ca_10 (cf_10 38).toInt) → (RvC ta (tf 6).toInt na ma0 d mid_10 (pf 13).toInt wr_10 x10_1) → (FqT na ca_10 (pf 24) x10_1 (cf_10 38).toInt) → (K_mp_checkText_10 sb d tf ta pf na ma cf ca ma cf_10 ca_10 x10_1) → (pf 13).toInt - mid_10 < (n_10 : Int) → pw D A s.heap H locs [wdP cs h r g tf ta pf na ma wa cf_10 ca_10 ef ea xf xa] → lv_has ls 3 [(0, .ref h), (1, .int x10_1)] → W p l e { frames := (6 * d + 40), cells := 0, slots := 0, locals := (260 * d + 1500) } s m [.ref h].toArray below meth c H locs 0 0 (MQ below (va_Qv (fun ps => ∃ (ma' : Nat → Nat → Int32) (cf' : Nat → Int32) (ca' : Nat → Nat → Int32), (ps = [wdP cs h r g tf ta pf na ma' wa cf' ca' ef ea xf xa]) ∧ (WrV cf' (tf 6).toInt) ∧ ((cf' 46).toInt = (cf 46).toInt) ∧ ((cf' 47).toInt = (cf 47).toInt) ∧ (0 ≤ (cf' 38).toInt) ∧ ((cf' 38).toInt ≤ 260) ∧ (0 ≤ (cf' 48).toInt) ∧ ((cf' 48).toInt ≤ 1090) ∧ (0 ≤ (cf' 55).toInt) ∧ ((cf' 55).toInt ≤ 4 * (cf' 41).toInt) ∧ ((cf' 30).toInt = 0 → (cf' 41).toInt ≤ 8192) ∧ ((cf' 30).toInt = 0 → (cf' 38).toInt ≤ 200) ∧ (FnT (tf 6).toInt na ca' (cf' 38).toInt) ∧ (FnP na ca' (cf' 38).toInt) ∧ (FqZ na ca' (cf' 38).toInt (pf 24)) ∧ (Ann na ma ma') ∧ (TxS ca' (cf' 48).toInt (cf' 55).toInt) ∧ (ZTx cf' ta ca' na ma ma' (tf 6).toInt (tf 5).toInt (cf' 38).toInt (cf' 48).toInt sb d (pf 13).toInt (pf 24)) ∧ (R_mp_checkText sb d tf ta pf na ma cf ca ma' cf' ca')) (pc_B D (va_A ([wdP cs h r g tf ta pf na ma wa cf ca ef ea xf xa] : List va_W).flatten s.heap.size)) (va_A ([wdP cs h r g tf ta pf na ma wa cf ca ef ea xf xa] : List va_W).flatten s.heap.size)) [.ref h].toArray s 0 0 A) (F0 m 10 ls []) := by
    intro  n_10
    induction n_10 with
    | zero =>
      intro cf_10 ca_10 mid_10 wr_10 x10_1 H locs ls k10_0 k10_1 k10_2 k10_3 k10_4 k10_5 k10_6 k10_7 k10_8 k10_9 k10_10 k10_11 k10_12 k10_13 k10_14 hm hw hl
      have lx10_1 := Int32.le_toInt x10_1
      have ux10_1 := Int32.toInt_lt x10_1
      have hwr := k10_9
      have hw0_k10_9 := hwr.1
      have hft := k10_10
      have hf11 := hft.1
      have hfp := k10_11
      have hrc := k10_12
      have hqt := k10_13
      exact absurd hm (by omega)
    | succ n_10 ih10 =>
      intro cf_10 ca_10 mid_10 wr_10 x10_1 H locs ls k10_0 k10_1 k10_2 k10_3 k10_4 k10_5 k10_6 k10_7 k10_8 k10_9 k10_10 k10_11 k10_12 k10_13 k10_14 hm hw hl
      have lx10_1 := Int32.le_toInt x10_1
      have ux10_1 := Int32.toInt_lt x10_1
      have hwr := k10_9
      have hw0_k10_9 := hwr.1
      have hft := k10_10
      have hf11 := hft.1
      have hfp := k10_11
      have hrc := k10_12
      have hqt := k10_13
      refine lv_iload_n S.x S.b d_Mpg_checkText_10 rfl (lv_at hl 1 rfl) ?_
      refine lv_if_lt (tgt := 55) S.x S.b d_Mpg_checkText_11 (by decide) (fun c240 => ?_) (fun c240 => ?_)
      · have nc240 : x10_1.toInt < (0 : Int) := (i_lt (x := x10_1) (y := 0)).mp c240
        refine lv_aload_n S.x S.b d_Mpg_checkText_55 rfl (lv_at hl 0 rfl) ?_
        refine lv_iconst (v := 0) S.x S.b d_Mpg_checkText_56 (by decide) ?_
        refine pP_33 S hT hw 0 rfl m10_22 rfl rfl rfl d_Mpg_checkText_57 (ps' := [wdP cs h r g tf ta pf na ma wa (upd cf_10 33 0) ca_10 ef ea xf xa]) rfl (fun H locs hw => ?_)
        refine lv_aload_n S.x S.b d_Mpg_checkText_60 rfl (lv_at hl 0 rfl) ?_
        refine lv_iconst (v := 0) S.x S.b d_Mpg_checkText_61 (by decide) ?_
        refine pP_37 S hT hw 0 rfl m10_26 rfl rfl rfl d_Mpg_checkText_62 (ps' := [wdP cs h r g tf ta pf na ma wa (upd (upd cf_10 33 0) 37 0) ca_10 ef ea xf xa]) rfl (fun H locs hw => ?_)
        refine lv_aload_n S.x S.b d_Mpg_checkText_65 rfl (lv_at hl 0 rfl) ?_
        refine lv_iconst (v := 0) S.x S.b d_Mpg_checkText_66 (by decide) ?_
        refine pP_44 S hT hw 0 rfl m10_35 rfl rfl rfl d_Mpg_checkText_67 (ps' := [wdP cs h r g tf ta pf na ma wa (upd (upd (upd cf_10 33 0) 37 0) 44 0) ca_10 ef ea xf xa]) rfl (fun H locs hw => ?_)
        refine lv_aload_n S.x S.b d_Mpg_checkText_70 rfl (lv_at hl 0 rfl) ?_
        refine lv_iconst (v := 0) S.x S.b d_Mpg_checkText_71 (by decide) ?_
        refine pP_45 S hT hw 0 rfl m10_36 rfl rfl rfl d_Mpg_checkText_72 (ps' := [wdP cs h r g tf ta pf na ma wa (upd (upd (upd (upd cf_10 33 0) 37 0) 44 0) 45 0) ca_10 ef ea xf xa]) rfl (fun H locs hw => ?_)
        refine lv_aload_n S.x S.b d_Mpg_checkText_75 rfl (lv_at hl 0 rfl) ?_
        refine lv_iconst (v := (-1)) S.x S.b d_Mpg_checkText_76 (by decide) ?_
        refine pP_43 S hT hw 0 rfl m10_34 rfl rfl rfl d_Mpg_checkText_77 (ps' := [wdP cs h r g tf ta pf na ma wa (upd (upd (upd (upd (upd cf_10 33 0) 37 0) 43 (-1)) 44 0) 45 0) ca_10 ef ea xf xa]) rfl (fun H locs hw => ?_)
        refine lv_iconst (v := 0) S.x S.b d_Mpg_checkText_80 (by decide) ?_
        refine lv_istore_n (lv' := [(1, .int 0), (0, .ref h)]) S.x S.b d_Mpg_checkText_81 rfl hl (by decide) rfl (fun ls hl => ?_)
        refine lv_aload_n S.x S.b d_Mpg_checkText_82 rfl (lv_at hl 1 rfl) ?_
        refine lv_iconst (v := 0) S.x S.b d_Mpg_checkText_83 (by decide) ?_
        refine pP_48 S hT hw 0 rfl m10_39 rfl rfl rfl d_Mpg_checkText_84 (ps' := [wdP cs h r g tf ta pf na ma wa (upd (upd (upd (upd (upd (upd cf_10 33 0) 37 0) 43 (-1)) 44 0) 45 0) 48 0) ca_10 ef ea xf xa]) rfl (fun H locs hw => ?_)
        refine lv_aload_n S.x S.b d_Mpg_checkText_87 rfl (lv_at hl 1 rfl) ?_
        refine lv_iconst (v := 0) S.x S.b d_Mpg_checkText_88 (by decide) ?_
        refine pP_55 S hT hw 0 rfl m10_51 rfl rfl rfl d_Mpg_checkText_89 (ps' := [wdP cs h r g tf ta pf na ma wa (upd (upd (upd (upd (upd (upd (upd cf_10 33 0) 37 0) 43 (-1)) 44 0) 45 0) 48 0) 55 0) ca_10 ef ea xf xa]) rfl (fun H locs hw => ?_)
        refine lv_aload_n S.x S.b d_Mpg_checkText_92 rfl (lv_at hl 1 rfl) ?_
        refine lv_iconst (v := 0) S.x S.b d_Mpg_checkText_93 (by decide) ?_
        refine pP_41 S hT hw 0 rfl m10_32 rfl rfl rfl d_Mpg_checkText_94 (ps' := [wdP cs h r g tf ta pf na ma wa (upd (upd (upd (upd (upd (upd (upd (upd cf_10 33 0) 37 0) 41 0) 43 (-1)) 44 0) 45 0) 48 0) 55 0) ca_10 ef ea xf xa]) rfl (fun H locs hw => ?_)
        refine lv_aload_n S.x S.b d_Mpg_checkText_97 rfl (lv_at hl 1 rfl) ?_
        refine gP_24 (v := (pf 24)) S hT hw 0 rfl rfl m10_12 d_Mpg_checkText_98 ?_
        refine lv_istore_n (lv' := [(2, .int (pf 24)), (1, .int 0), (0, .ref h)]) S.x S.b d_Mpg_checkText_101 rfl hl (by decide) rfl (fun ls hl => ?_)
        first | exact J102 (((pf 13).toInt - 0).toNat + 1) ma (upd (upd (upd (upd (upd (upd (upd (upd cf_10 33 0) 37 0) 41 0) 43 (-1)) 44 0) 45 0) 48 0) 55 0) ca_10 0 w (cf_10 38).toInt (0 : Int32) (pf 24) _ _ ls (show WrV (upd (upd (upd (upd (upd (upd (upd (upd cf_10 33 0) 37 0) 41 0) 43 (-1)) 44 0) 45 0) 48 0) 55 0) (tf 6).toInt from (WrV.u (WrV.u (WrV.u (WrV.u (WrV.u (WrV.u (WrV.u (WrV.u hwr (by decide) (by decide)) (by decide) (by decide)) (by decide) (by decide)) (by decide) (by decide)) (by decide) (by decide)) (by decide) (by decide)) (by decide) (by decide)) (by decide) (by decide))) (show (cf_10 46).toInt = (cf 46).toInt from k10_2) (show (cf_10 47).toInt = (cf 47).toInt from k10_3) (show (cf_10 38).toInt = (cf_10 38).toInt from rfl) (show 0 ≤ (cf_10 38).toInt from k10_4) (show (cf_10 38).toInt ≤ 260 from hf11) (show 0 ≤ (0 : Int) from oz_5a341f00aa) (show 6 * (0 : Int) + w ≤ w from oz_f48bf4be2a) (show 0 ≤ (0 : Int) from oz_5a341f00aa) (show 6 * (0 : Int) + w ≤ w from oz_f48bf4be2a) (show (0 : Int) = 0 from oz_7d1a308c7e) (show (0 : Int) = 0 from oz_7d1a308c7e) (show (0 : Int) = 0 from oz_7d1a308c7e) (show (-1 : Int) = -1 from oz_4f0dd34f92) (show 0 ≤ (0 : Int) from oz_5a341f00aa) (show (0 : Int) ≤ (cf_10 38).toInt from (oz_50c21e157e k10_4)) (show 0 ≤ (0 : Int) from oz_5a341f00aa) (show (0 : Int) ≤ 4 * (0 : Int) from oz_397c02ad98) (show 0 ≤ (0 : Int) from oz_5a341f00aa) (show (0 : Int) ≤ 4096 * (0 : Int) from oz_952297799d) (show (0 : Int) ≤ 4096 * (0 : Int) from oz_952297799d) (show 0 ≤ 0 from by omega) (show 0 ≤ (pf 13).toInt from g0) (show 0 ≤ w from hwp0) (show w ≤ w from oz_1cb5f934a5) (show KnT (tf 6).toInt ca_10 (0 : Int) from ⟨oz_adb5b99fec, fun i9 h9 => absurd h9 (by omega)⟩) (show KnS ca_10 (0 : Int) (0 : Int) 5000 from (fun i9 h9 => absurd h9 (by omega))) (show FnT (tf 6).toInt na ca_10 (cf_10 38).toInt from (FnT.eq hft (show _ = (cf_10 38).toInt by omega))) (show FnP na ca_10 (cf_10 38).toInt from (FnP.eq hfp (by omega))) (show FqE na ca_10 (cf_10 38).toInt (pf 24) (0 : Int) from (FqT.e hqt (by omega))) (show FqZ na ca_10 (cf_10 38).toInt (pf 24) from (FqT.e hqt (by omega))) (show Ann na ma0 ma from han) (show TxS ca_10 (0 : Int) (0 : Int) from txs_0) (show RvC ta (tf 6).toInt na ma0 d 0 (pf 13).toInt w (pf 24) from hrc0) (show ZFa (upd (upd (upd (upd (upd (upd (upd (upd cf_10 33 0) 37 0) 41 0) 43 (-1)) 44 0) 45 0) 48 0) 55 0) ta ca_10 na ma0 ma (tf 6).toInt (cf_10 38).toInt (0 : Int) d 0 (0 : Int) from (fun _ f9 h9 => absurd h9 (by omega))) (show ZPc (upd (upd (upd (upd (upd (upd (upd (upd cf_10 33 0) 37 0) 41 0) 43 (-1)) 44 0) 45 0) 48 0) 55 0) ta ca_10 na ma0 ma (cf_10 38).toInt (0 : Int) 0 (pf 24) (pf 24) from (fun _ => ⟨0, rfl⟩)) (show K_mp_checkText_102 sb d tf ta pf na ma cf ca ma (upd (upd (upd (upd (upd (upd (upd (upd cf_10 33 0) 37 0) 41 0) 43 (-1)) 44 0) 45 0) 48 0) 55 0) ca_10 0 (pf 24) from (fun y_f0 y_f1 y_f2 k hE => k10_14 y_f0 y_f1 y_f2 (k + 1) (Or.inr (Or.inl ⟨rfl, x10_1, rfl, rfl, rfl, rfl, rfl, Or.inl ⟨nc240, hE⟩⟩)))) (show (pf 13).toInt - 0 < (((((pf 13).toInt - 0).toNat + 1 : Nat) : Int) : Int) from oz_natlt) hw (lv_sub hl [2, 1, 0] rfl) | (exact J102 (((pf 13).toInt - 0).toNat + 1) ma (upd (upd (upd (upd (upd (upd (upd (upd cf_10 33 0) 37 0) 41 0) 43 (-1)) 44 0) 45 0) 48 0) 55 0) ca_10 0 w (cf_10 38).toInt (0 : Int32) (pf 24) _ _ ls (show WrV (upd (upd (upd (upd (upd (upd (upd (upd cf_10 33 0) 37 0) 41 0) 43 (-1)) 44 0) 45 0) 48 0) 55 0) (tf 6).toInt from (WrV.u (WrV.u (WrV.u (WrV.u (WrV.u (WrV.u (WrV.u (WrV.u hwr (by decide) (by decide)) (by decide) (by decide)) (by decide) (by decide)) (by decide) (by decide)) (by decide) (by decide)) (by decide) (by decide)) (by decide) (by decide)) (by decide) (by decide))) (show (cf_10 46).toInt = (cf 46).toInt from by first | exact k10_2 | omega) (show (cf_10 47).toInt = (cf 47).toInt from by first | exact k10_3 | omega) (show (cf_10 38).toInt = (cf_10 38).toInt from rfl) (show 0 ≤ (cf_10 38).toInt from by first | exact k10_4 | omega) (show (cf_10 38).toInt ≤ 260 from by first | exact hf11 | omega) (show 0 ≤ (0 : Int) from by first | exact oz_5a341f00aa | omega) (show 6 * (0 : Int) + w ≤ w from by first | exact oz_f48bf4be2a | omega) (show 0 ≤ (0 : Int) from by first | exact oz_5a341f00aa | omega) (show 6 * (0 : Int) + w ≤ w from by first | exact oz_f48bf4be2a | omega) (show (0 : Int) = 0 from by first | exact oz_7d1a308c7e | omega) (show (0 : Int) = 0 from by first | exact oz_7d1a308c7e | omega) (show (0 : Int) = 0 from by first | exact oz_7d1a308c7e | omega) (show (-1 : Int) = -1 from by first | exact oz_4f0dd34f92 | omega) (show 0 ≤ (0 : Int) from by first | exact oz_5a341f00aa | omega) (show (0 : Int) ≤ (cf_10 38).toInt from by first | exact oz_50c21e157e k10_4 | omega) (show 0 ≤ (0 : Int) from by first | exact oz_5a341f00aa | omega) (show (0 : Int) ≤ 4 * (0 : Int) from by first | exact oz_397c02ad98 | omega) (show 0 ≤ (0 : Int) from by first | exact oz_5a341f00aa | omega) (show (0 : Int) ≤ 4096 * (0 : Int) from by first | exact oz_952297799d | omega) (show (0 : Int) ≤ 4096 * (0 : Int) from by first | exact oz_952297799d | omega) (show 0 ≤ 0 from by omega) (show 0 ≤ (pf 13).toInt from by first | exact g0 | omega) (show 0 ≤ w from by first | exact hwp0 | omega) (show w ≤ w from by first | exact oz_1cb5f934a5 | omega) (show KnT (tf 6).toInt ca_10 (0 : Int) from ⟨by first | exact oz_adb5b99fec | omega, fun i9 h9 => absurd h9 (by omega)⟩) (show KnS ca_10 (0 : Int) (0 : Int) 5000 from (fun i9 h9 => absurd h9 (by omega))) (show FnT (tf 6).toInt na ca_10 (cf_10 38).toInt from (FnT.eq hft (show _ = (cf_10 38).toInt by omega))) (show FnP na ca_10 (cf_10 38).toInt from (FnP.eq hfp (by omega))) (show FqE na ca_10 (cf_10 38).toInt (pf 24) (0 : Int) from (FqT.e hqt (by omega))) (show FqZ na ca_10 (cf_10 38).toInt (pf 24) from (FqT.e hqt (by omega))) (show Ann na ma0 ma from han) (show TxS ca_10 (0 : Int) (0 : Int) from txs_0) (show RvC ta (tf 6).toInt na ma0 d 0 (pf 13).toInt w (pf 24) from hrc0) (show ZFa (upd (upd (upd (upd (upd (upd (upd (upd cf_10 33 0) 37 0) 41 0) 43 (-1)) 44 0) 45 0) 48 0) 55 0) ta ca_10 na ma0 ma (tf 6).toInt (cf_10 38).toInt (0 : Int) d 0 (0 : Int) from (fun _ f9 h9 => absurd h9 (by omega))) (show ZPc (upd (upd (upd (upd (upd (upd (upd (upd cf_10 33 0) 37 0) 41 0) 43 (-1)) 44 0) 45 0) 48 0) 55 0) ta ca_10 na ma0 ma (cf_10 38).toInt (0 : Int) 0 (pf 24) (pf 24) from (fun _ => ⟨0, rfl⟩)) (show K_mp_checkText_102 sb d tf ta pf na ma cf ca ma (upd (upd (upd (upd (upd (upd (upd (upd cf_10 33 0) 37 0) 41 0) 43 (-1)) 44 0) 45 0) 48 0) 55 0) ca_10 0 (pf 24) from (fun y_f0 y_f1 y_f2 k hE => k10_14 y_f0 y_f1 y_f2 (k + 1) (Or.inr (Or.inl ⟨rfl, x10_1, rfl, rfl, rfl, rfl, rfl, Or.inl ⟨nc240, hE⟩⟩)))) (show (pf 13).toInt - 0 < (((((pf 13).toInt - 0).toNat + 1 : Nat) : Int) : Int) from by first | exact oz_natlt | omega) hw (lv_sub hl [2, 1, 0] rfl))
      · have nc240 : ¬ x10_1.toInt < (0 : Int) := mt (i_lt (x := x10_1) (y := 0)).mpr c240
        refine lv_aload_n S.x S.b d_Mpg_checkText_14 rfl (lv_at hl 0 rfl) ?_
        obtain ⟨md242, wv243, hm1_md242, hm2_md242, hm3_md242, hpc, hx3_md242, hrc2⟩ := RvE.step hrc (by omega); have hpr := PcV.rng hpc; have hpk := PcV.kind hpc; have hwp2 := RvE.wp hrc2
        refine gP_14 S hT hw 0 rfl m9_238 d_Mpg_checkText_15 ?_
        refine lv_iload_n S.x S.b d_Mpg_checkText_18 rfl (lv_at hl 1 rfl) ?_
        refine px_bald S hT hw 0 10 (n := 2100) (f := (na 14)) rfl gp_14 (x := x10_1) (vp_in_iff.mpr (by constructor <;> omega)) d_Mpg_checkText_19 ?_
        refine lv_topi (fun z244 ez244 => ?_)
        have lz244 := Int32.le_toInt z244
        have uz244 := Int32.toInt_lt z244
        have rz244 : z244.toInt = (na 14 x10_1.toNatClampNeg).toInt := (by rw [ez244])
        refine lv_bipush (v := 41) S.x S.b d_Mpg_checkText_20 (by decide) ?_
        refine lv_icmp_ne (tgt := 45) S.x S.b d_Mpg_checkText_22 (by decide) (fun c245 => ?_) (fun c245 => ?_)
        · have nc245 : ¬ z244.toInt = (41 : Int) := mt (i_eq (x := z244) (y := 41)).mpr c245
          refine lv_aload_n S.x S.b d_Mpg_checkText_45 rfl (lv_at hl 0 rfl) ?_
          refine gP_21 S hT hw 0 rfl m10_7 d_Mpg_checkText_46 ?_
          refine lv_iload_n S.x S.b d_Mpg_checkText_49 rfl (lv_at hl 1 rfl) ?_
          refine px_iald S hT hw 0 17 (n := 2100) (f := (na 21)) rfl gp_21 (x := x10_1) (vp_in_iff.mpr (by constructor <;> omega)) d_Mpg_checkText_50 ?_
          refine lv_topi (fun z247 ez247 => ?_)
          have lz247 := Int32.le_toInt z247
          have uz247 := Int32.toInt_lt z247
          refine lv_istore_n (lv' := [(1, .int z247), (0, .ref h)]) S.x S.b d_Mpg_checkText_51 rfl hl (by decide) rfl (fun ls hl => ?_)
          refine lv_goto (tgt := 10) S.x S.b d_Mpg_checkText_52 (by decide) ?_
          first | exact ih10 cf_10 ca_10 md242 (wr_10 - wv243) z247 _ _ ls (show (cf_10 30).toInt = (cf 30).toInt from k10_0) (show (cf_10 31).toInt = (cf 31).toInt from k10_1) (show (cf_10 46).toInt = (cf 46).toInt from k10_2) (show (cf_10 47).toInt = (cf 47).toInt from k10_3) (show 0 ≤ (cf_10 38).toInt from k10_4) (show 24 * (cf_10 38).toInt + (wr_10 - wv243) ≤ w from by omega) (show 0 ≤ md242 from by omega) (show md242 ≤ (pf 13).toInt from by omega) (show 0 ≤ (wr_10 - wv243) from by omega) (show WrV cf_10 (tf 6).toInt from hwr) (show FnT (tf 6).toInt na ca_10 (cf_10 38).toInt from (FnT.eq hft (show _ = (cf_10 38).toInt by omega))) (show FnP na ca_10 (cf_10 38).toInt from (FnP.eq hfp (by omega))) (show RvC ta (tf 6).toInt na ma0 d md242 (pf 13).toInt (wr_10 - wv243) z247 from (by rw [ez247]; exact hrc2)) (show FqT na ca_10 (pf 24) z247 (cf_10 38).toInt from (FqT.n0 (FqT_eq hqt (by omega)) (by omega) (by omega) ez247)) (show K_mp_checkText_10 sb d tf ta pf na ma cf ca ma cf_10 ca_10 z247 from (fun y_f0 y_f1 y_f2 k hE => k10_14 y_f0 y_f1 y_f2 (k + 1) (Or.inr (Or.inl ⟨rfl, x10_1, rfl, rfl, rfl, rfl, rfl, Or.inr ⟨nc240, z244, ez244, Or.inl ⟨nc245, z247, ez247, hE⟩⟩⟩)))) (show (pf 13).toInt - md242 < (n_10 : Int) from by omega) hw (lv_sub hl [1, 0] rfl) | (exact ih10 cf_10 ca_10 md242 (wr_10 - wv243) z247 _ _ ls (show (cf_10 30).toInt = (cf 30).toInt from by first | exact k10_0 | omega) (show (cf_10 31).toInt = (cf 31).toInt from by first | exact k10_1 | omega) (show (cf_10 46).toInt = (cf 46).toInt from by first | exact k10_2 | omega) (show (cf_10 47).toInt = (cf 47).toInt from by first | exact k10_3 | omega) (show 0 ≤ (cf_10 38).toInt from by first | exact k10_4 | omega) (show 24 * (cf_10 38).toInt + (wr_10 - wv243) ≤ w from by omega) (show 0 ≤ md242 from by omega) (show md242 ≤ (pf 13).toInt from by omega) (show 0 ≤ (wr_10 - wv243) from by omega) (show WrV cf_10 (tf 6).toInt from hwr) (show FnT (tf 6).toInt na ca_10 (cf_10 38).toInt from (FnT.eq hft (show _ = (cf_10 38).toInt by omega))) (show FnP na ca_10 (cf_10 38).toInt from (FnP.eq hfp (by omega))) (show RvC ta (tf 6).toInt na ma0 d md242 (pf 13).toInt (wr_10 - wv243) z247 from (by rw [ez247]; exact hrc2)) (show FqT na ca_10 (pf 24) z247 (cf_10 38).toInt from (FqT.n0 (FqT_eq hqt (by omega)) (by omega) (by omega) ez247)) (show K_mp_checkText_10 sb d tf ta pf na ma cf ca ma cf_10 ca_10 z247 from (fun y_f0 y_f1 y_f2 k hE => k10_14 y_f0 y_f1 y_f2 (k + 1) (Or.inr (Or.inl ⟨rfl, x10_1, rfl, rfl, rfl, rfl, rfl, Or.inr ⟨nc240, z244, ez244, Or.inl ⟨nc245, z247, ez247, hE⟩⟩⟩)))) (show (pf 13).toInt - md242 < (n_10 : Int) from by omega) hw (lv_sub hl [1, 0] rfl))
        · have nc245 : z244.toInt = (41 : Int) := (i_eq (x := z244) (y := 41)).mp c245
          refine lv_aload_n S.x S.b d_Mpg_checkText_25 rfl (lv_at hl 0 rfl) ?_
          refine gP_39 S hT hw 0 rfl m10_28 d_Mpg_checkText_26 ?_
          refine lv_aload_n S.x S.b d_Mpg_checkText_29 rfl (lv_at hl 0 rfl) ?_
          refine gP_38 (v := (cf_10 38)) S hT hw 0 rfl rfl m10_27 d_Mpg_checkText_30 ?_
          refine lv_iload_n S.x S.b d_Mpg_checkText_33 rfl (lv_at hl 1 rfl) ?_
          refine px_iast S hT hw 0 26 (n := 260) (f := (ca_10 39)) (x := (cf_10 38)) (y := x10_1) rfl gp_39 (vp_in_iff.mpr (by constructor <;> omega)) d_Mpg_checkText_34 (w' := wdP cs h r g tf ta pf na ma wa cf_10 (va_up ca_10 39 (upd (ca_10 39) (cf_10 38).toNatClampNeg x10_1)) ef ea xf xa) (ps' := [wdP cs h r g tf ta pf na ma wa cf_10 (va_up ca_10 39 (upd (ca_10 39) (cf_10 38).toNatClampNeg x10_1)) ef ea xf xa]) sp_39 rfl (fun H locs hw => ?_)
          obtain ⟨ca248, hu_ca248⟩ : ∃ y : Nat → Nat → Int32, y = va_up ca_10 39 (upd (ca_10 39) (cf_10 38).toNatClampNeg x10_1) := ⟨_, rfl⟩
          have hw : pw D A s.heap _ _ [wdP cs h r g tf ta pf na ma wa cf_10 ca248 ef ea xf xa] := (by rw [hu_ca248]; exact hw)
          have hfu := PcV.fu hpc (by omega)
          have htk9 := hfu.2.2.1
          have hu24 := hfu.2.2.2.2.1
          have hpw9 := FuV.prw hfu (by omega)
          have hft := FnT.nx hft hu_ca248 rfl (by omega) (by omega) ⟨⟨by omega, by omega⟩, htk9.1, htk9.2⟩
          have hfp := FnP.nx hfp hu_ca248 rfl (by omega) hpw9
          refine lv_aload_n S.x S.b d_Mpg_checkText_35 rfl (lv_at hl 0 rfl) ?_
          refine lv_dup S.x S.b d_Mpg_checkText_36 rfl ?_
          refine gP_38 (v := (cf_10 38)) S hT hw 0 rfl rfl m10_27 d_Mpg_checkText_37 ?_
          refine lv_iconst (v := 1) S.x S.b d_Mpg_checkText_40 (by decide) ?_
          refine lv_iadd S.x S.b d_Mpg_checkText_41 ?_
          have lr249 := Int32.le_toInt (cf_10 38)
          have ur249 := Int32.toInt_lt (cf_10 38)
          refine lv_topi (fun z250 ez250 => ?_)
          have tz250 : z250.toInt = ((cf_10 38).toInt + (1 : Int) + 2147483648) % 4294967296 - 2147483648 := by rw [ez250]; exact i_add (cf_10 38) 1
          have lz250 := Int32.le_toInt z250
          have uz250 := Int32.toInt_lt z250
          try replace tz250 : z250.toInt = (cf_10 38).toInt + (1 : Int) := by omega
          refine pP_38 S hT hw 0 rfl m10_27 rfl rfl rfl d_Mpg_checkText_42 (ps' := [wdP cs h r g tf ta pf na ma wa (upd cf_10 38 z250) ca248 ef ea xf xa]) rfl (fun H locs hw => ?_)
          refine lv_aload_n S.x S.b d_Mpg_checkText_45 rfl (lv_at hl 0 rfl) ?_
          refine gP_21 S hT hw 0 rfl m10_7 d_Mpg_checkText_46 ?_
          refine lv_iload_n S.x S.b d_Mpg_checkText_49 rfl (lv_at hl 1 rfl) ?_
          refine px_iald S hT hw 0 17 (n := 2100) (f := (na 21)) rfl gp_21 (x := x10_1) (vp_in_iff.mpr (by constructor <;> omega)) d_Mpg_checkText_50 ?_
          refine lv_topi (fun z251 ez251 => ?_)
          have lz251 := Int32.le_toInt z251
          have uz251 := Int32.toInt_lt z251
          refine lv_istore_n (lv' := [(1, .int z251), (0, .ref h)]) S.x S.b d_Mpg_checkText_51 rfl hl (by decide) rfl (fun ls hl => ?_)
          refine lv_goto (tgt := 10) S.x S.b d_Mpg_checkText_52 (by decide) ?_
          first | exact ih10 (upd cf_10 38 z250) ca248 md242 (wr_10 - wv243) z251 _ _ ls (show (cf_10 30).toInt = (cf 30).toInt from k10_0) (show (cf_10 31).toInt = (cf 31).toInt from k10_1) (show (cf_10 46).toInt = (cf 46).toInt from k10_2) (show (cf_10 47).toInt = (cf 47).toInt from k10_3) (show 0 ≤ z250.toInt from (oz_b3b25f0e49 tz250 k10_4)) (show 24 * z250.toInt + (wr_10 - wv243) ≤ w from by omega) (show 0 ≤ md242 from by omega) (show md242 ≤ (pf 13).toInt from by omega) (show 0 ≤ (wr_10 - wv243) from by omega) (show WrV (upd cf_10 38 z250) (tf 6).toInt from (WrV.u hwr (by decide) (by decide))) (show FnT (tf 6).toInt na ca248 z250.toInt from (FnT.eq hft (show _ = z250.toInt by omega))) (show FnP na ca248 z250.toInt from (FnP.eq hfp (by omega))) (show RvC ta (tf 6).toInt na ma0 d md242 (pf 13).toInt (wr_10 - wv243) z251 from (by rw [ez251]; exact hrc2)) (show FqT na ca248 (pf 24) z251 z250.toInt from (FqT.n1 (v := x10_1) hqt (by omega) (by omega) (by omega) ez251 hu_ca248 (by omega))) (show K_mp_checkText_10 sb d tf ta pf na ma cf ca ma (upd cf_10 38 z250) ca248 z251 from (fun y_f0 y_f1 y_f2 k hE => k10_14 y_f0 y_f1 y_f2 (k + 1) (Or.inr (Or.inl ⟨rfl, x10_1, rfl, rfl, rfl, rfl, rfl, Or.inr ⟨nc240, z244, ez244, Or.inr ⟨nc245, ca248, hu_ca248, z250, ez250, z251, ez251, hE⟩⟩⟩)))) (show (pf 13).toInt - md242 < (n_10 : Int) from by omega) hw (lv_sub hl [1, 0] rfl) | (exact ih10 (upd cf_10 38 z250) ca248 md242 (wr_10 - wv243) z251 _ _ ls (show (cf_10 30).toInt = (cf 30).toInt from by first | exact k10_0 | omega) (show (cf_10 31).toInt = (cf 31).toInt from by first | exact k10_1 | omega) (show (cf_10 46).toInt = (cf 46).toInt from by first | exact k10_2 | omega) (show (cf_10 47).toInt = (cf 47).toInt from by first | exact k10_3 | omega) (show 0 ≤ z250.toInt from by first | exact oz_b3b25f0e49 tz250 k10_4 | omega) (show 24 * z250.toInt + (wr_10 - wv243) ≤ w from by omega) (show 0 ≤ md242 from by omega) (show md242 ≤ (pf 13).toInt from by omega) (show 0 ≤ (wr_10 - wv243) from by omega) (show WrV (upd cf_10 38 z250) (tf 6).toInt from (WrV.u hwr (by decide) (by decide))) (show FnT (tf 6).toInt na ca248 z250.toInt from (FnT.eq hft (show _ = z250.toInt by omega))) (show FnP na ca248 z250.toInt from (FnP.eq hfp (by omega))) (show RvC ta (tf 6).toInt na ma0 d md242 (pf 13).toInt (wr_10 - wv243) z251 from (by rw [ez251]; exact hrc2)) (show FqT na ca248 (pf 24) z251 z250.toInt from (FqT.n1 (v := x10_1) hqt (by omega) (by omega) (by omega) ez251 hu_ca248 (by omega))) (show K_mp_checkText_10 sb d tf ta pf na ma cf ca ma (upd cf_10 38 z250) ca248 z251 from (fun y_f0 y_f1 y_f2 k hE => k10_14 y_f0 y_f1 y_f2 (k + 1) (Or.inr (Or.inl ⟨rfl, x10_1, rfl, rfl, rfl, rfl, rfl, Or.inr ⟨nc240, z244, ez244, Or.inr ⟨nc245, ca248, hu_ca248, z250, ez250, z251, ez251, hE⟩⟩⟩)))) (show (pf 13).toInt - md242 < (n_10 : Int) from by omega) hw (lv_sub hl [1, 0] rfl))
  refine lv_aload_n S.x S.b d_Mpg_checkText_0 rfl (lv_at hl 0 rfl) ?_
  refine lv_iconst (v := 0) S.x S.b d_Mpg_checkText_1 (by decide) ?_
  refine pP_38 S hT hw 0 rfl m10_27 rfl rfl rfl d_Mpg_checkText_2 (ps' := [wdP cs h r g tf ta pf na ma wa (upd cf 38 0) ca ef ea xf xa]) rfl (fun H locs hw => ?_)
  refine lv_aload_n S.x S.b d_Mpg_checkText_5 rfl (lv_at hl 0 rfl) ?_
  refine gP_24 (v := (pf 24)) S hT hw 0 rfl rfl m10_12 d_Mpg_checkText_6 ?_
  refine lv_istore_n (lv' := [(1, .int (pf 24)), (0, .ref h)]) S.x S.b d_Mpg_checkText_9 rfl hl (by decide) rfl (fun ls hl => ?_)
  first | exact J10 (((pf 13).toInt - 0).toNat + 1) (upd cf 38 0) ca 0 w (pf 24) _ _ ls (show (cf 30).toInt = (cf 30).toInt from rfl) (show (cf 31).toInt = (cf 31).toInt from rfl) (show (cf 46).toInt = (cf 46).toInt from rfl) (show (cf 47).toInt = (cf 47).toInt from rfl) (show 0 ≤ (0 : Int) from oz_5a341f00aa) (show 24 * (0 : Int) + w ≤ w from oz_3754fbd6fc) (show 0 ≤ 0 from by omega) (show 0 ≤ (pf 13).toInt from g0) (show 0 ≤ w from hwp0) (show WrV (upd cf 38 0) (tf 6).toInt from (WrV.u hwr (by decide) (by decide))) (show FnT (tf 6).toInt na ca (0 : Int) from ⟨oz_58caa455ab, fun i9 h9 => absurd h9 (by omega)⟩) (show FnP na ca (0 : Int) from (fun i9 h9 => absurd h9 (by omega))) (show RvC ta (tf 6).toInt na ma0 d 0 (pf 13).toInt w (pf 24) from hrc) (show FqT na ca (pf 24) (pf 24) (0 : Int) from (fqt_0 rfl)) (show K_mp_checkText_10 sb d tf ta pf na ma cf ca ma (upd cf 38 0) ca (pf 24) from (fun y_f0 y_f1 y_f2 k hE => Exists.intro (k + 1) (Or.inl ⟨rfl, hE⟩))) (show (pf 13).toInt - 0 < (((((pf 13).toInt - 0).toNat + 1 : Nat) : Int) : Int) from oz_natlt) hw (lv_sub hl [1, 0] rfl) | (exact J10 (((pf 13).toInt - 0).toNat + 1) (upd cf 38 0) ca 0 w (pf 24) _ _ ls (show (cf 30).toInt = (cf 30).toInt from rfl) (show (cf 31).toInt = (cf 31).toInt from rfl) (show (cf 46).toInt = (cf 46).toInt from rfl) (show (cf 47).toInt = (cf 47).toInt from rfl) (show 0 ≤ (0 : Int) from by first | exact oz_5a341f00aa | omega) (show 24 * (0 : Int) + w ≤ w from by first | exact oz_3754fbd6fc | omega) (show 0 ≤ 0 from by omega) (show 0 ≤ (pf 13).toInt from by first | exact g0 | omega) (show 0 ≤ w from by first | exact hwp0 | omega) (show WrV (upd cf 38 0) (tf 6).toInt from (WrV.u hwr (by decide) (by decide))) (show FnT (tf 6).toInt na ca (0 : Int) from ⟨by first | exact oz_58caa455ab | omega, fun i9 h9 => absurd h9 (by omega)⟩) (show FnP na ca (0 : Int) from (fun i9 h9 => absurd h9 (by omega))) (show RvC ta (tf 6).toInt na ma0 d 0 (pf 13).toInt w (pf 24) from hrc) (show FqT na ca (pf 24) (pf 24) (0 : Int) from (fqt_0 rfl)) (show K_mp_checkText_10 sb d tf ta pf na ma cf ca ma (upd cf 38 0) ca (pf 24) from (fun y_f0 y_f1 y_f2 k hE => Exists.intro (k + 1) (Or.inl ⟨rfl, hE⟩))) (show (pf 13).toInt - 0 < (((((pf 13).toInt - 0).toNat + 1 : Nat) : Int) : Int) from by first | exact oz_natlt | omega) hw (lv_sub hl [1, 0] rfl))
