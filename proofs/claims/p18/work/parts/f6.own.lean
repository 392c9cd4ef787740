theorem oz_2e4f4c116e {a0 a1 a2 : Int} (h0 : a0 = a1 - (1 : Int)) (h1 : a1 = a2) (h2 : a2 ≤ (1 : Int)) : a0 < 62500 := by omega
theorem oz_e3309c85a3 {a0 a1 a2 a3 a4 a5 a6 a7 a8 a9 a10 a11 a12 a13 a14 a15 a16 a17 : Int} (h0 : a12 = a1) (h1 : a0 = a12) (h2 : a13 = a3) (h3 : a2 = a13) (h4 : a14 = a5) (h5 : a4 = a14) (h6 : a15 = a7) (h7 : a6 = a15) (h8 : a16 = a9) (h9 : a8 = a16) (h10 : a17 = a11) (h11 : a10 = a17) : a0 = a1 ∧ a2 = a3 ∧ a4 = a5 ∧ a6 = a7 ∧ a8 = a9 ∧ a10 = a11 := by omega
theorem oz_c24f474a2b {a0 a1 a2 a3 a4 a5 a6 a7 a8 : Int} (h0 : a6 = a1) (h1 : a0 = a6) (h2 : a7 = a3) (h3 : a2 = a7) (h4 : a8 = a5) (h5 : a4 = a8) : a0 = a1 ∧ a2 = a3 ∧ a4 = a5 := by omega
theorem oz_2c9f9036ba {a0 a1 : Int} (h0 : a0 = a1 - (2 : Int)) (h1 : a1 ≤ (1 : Int)) : a0 < 62500 := by omega
theorem oz_82ab602a70 {a0 a1 a2 a3 a4 a5 a6 a7 a8 a9 a10 a11 : Int} (h0 : a0 = a1) (h1 : a2 = a3) (h2 : a4 = a5) (h3 : a6 = a7) (h4 : a8 = a9) (h5 : a10 = a11) : a0 = a1 ∧ a2 = a3 ∧ a4 = a5 ∧ a6 = a7 ∧ a8 = a9 ∧ a10 = a11 := by omega
theorem oz_ca5abb16c6 {a0 a1 a2 a3 a4 a5 : Int} (h0 : a0 = a1) (h1 : a2 = a3) (h2 : a4 = a5) : a0 = a1 ∧ a2 = a3 ∧ a4 = a5 := by omega
theorem oz_9812ba30bf {a0 a1 : Int} (h0 : a0 + a1 ≤ 100) (h1 : 0 ≤ a1) : a0 ≤ 1000000 := by omega
theorem oz_31acf4d49a {a0 a1 : Int} (h0 : a0 = a1 - (2 : Int)) (h1 : ¬ a1 ≤ (1 : Int)) (h2 : a1 ≤ 514) : 0 ≤ a0 ∧ a0 < ((62500 : Nat) : Int) := by omega
theorem oz_89fa327c54 {a0 a1 a2 : Int} (h0 : a0 = a1 - (1 : Int)) (h1 : a1 = a2) (h2 : ¬ a2 ≤ (1 : Int)) : 0 ≤ a0 := by omega
theorem oz_379d4e28b3 {a0 a1 a2 : Int} (h0 : a0 = a1 - (1 : Int)) (h1 : a1 = a2) (h2 : a2 ≤ 514) : a0 < 62500 := by omega
theorem oz_032273fb6e {a0 a1 : Int} (h0 : a0 = a1 - (2 : Int)) (h1 : ¬ a1 ≤ (1 : Int)) : 0 ≤ a0 := by omega
theorem oz_7c2ced9dd1 {a0 a1 : Int} (h0 : a0 = a1 - (2 : Int)) (h1 : a1 ≤ 514) : a0 < 62500 := by omega
theorem m10_239 : Cond.fieldLink "HomeSystemModel" 133 "HomeSystemModel$Process" "numbers" "[I" ∈ AL := AL_10 (List.mem_of_getElem? (i := 239) rfl) rfl
theorem m11_1 : Cond.fieldLink "HomeSystemModel" 136 "HomeSystemModel$Process" "found" "I" ∈ AL := AL_11 (List.mem_of_getElem? (i := 1) rfl) rfl
theorem m14_111 : Cond.methodLink "HomeSystemModel" 163 ⟨"HomeSystemModel$Process", "give", "(I)V"⟩ ∈ AL := AL_14 (List.mem_of_getElem? (i := 111) rfl) rfl
theorem m14_36 : Cond.methodLink "HomeSystemModel" 139 ⟨"HomeSystemModel$Process", "write", "(I)V"⟩ ∈ AL := AL_14 (List.mem_of_getElem? (i := 36) rfl) rfl
theorem m14_39 : Cond.code ⟨"HomeSystemModel$Process", "write", "(I)V"⟩ prog_15_method_7_code 2 (Option.none : Option Jvm.ClassFile.FieldType) ∈ AL := AL_14 (List.mem_of_getElem? (i := 39) rfl) rfl
theorem m14_38 : Cond.selects "HomeSystemModel$Process" ⟨"HomeSystemModel$Process", "write", "(I)V"⟩ ⟨"HomeSystemModel$Process", "write", "(I)V"⟩ ∈ AL := AL_14 (List.mem_of_getElem? (i := 38) rfl) rfl
theorem m14_37 : Cond.instanceMethod ⟨"HomeSystemModel$Process", "write", "(I)V"⟩ ∈ AL := AL_14 (List.mem_of_getElem? (i := 37) rfl) rfl
theorem m14_40 : Cond.methodLink "HomeSystemModel" 142 ⟨"HomeSystemModel", "sends", "(III)Z"⟩ ∈ AL := AL_14 (List.mem_of_getElem? (i := 40) rfl) rfl
theorem m14_43 : Cond.code ⟨"HomeSystemModel", "sends", "(III)Z"⟩ prog_14_method_17_code 6 (Option.some FieldType.boolean) ∈ AL := AL_14 (List.mem_of_getElem? (i := 43) rfl) rfl
theorem ms_15_13 : Cond.selects "HomeSystemModel" ⟨"HomeSystemModel", "sends", "(III)Z"⟩ ⟨"HomeSystemModel", "sends", "(III)Z"⟩ ∈ AL := AL_p (q := (⟨"HomeSystemModel", "sends", "(III)Z"⟩, 11)) (by unfold lw_privs; exact List.mem_append_right _ (List.mem_append_right _ (List.mem_append_right _ (List.mem_append_right _ (List.mem_append_right _ (List.mem_append_right _ (List.mem_append_right _ (List.mem_append_right _ (List.mem_append_right _ (List.mem_append_right _ (List.mem_append_right _ (List.mem_append_right _ (List.mem_append_right _ (List.mem_append_right _ (List.mem_append_left _ (List.mem_of_getElem? (i := 13) rfl))))))))))))))))
theorem m14_42 : Cond.instanceMethod ⟨"HomeSystemModel", "sends", "(III)Z"⟩ ∈ AL := AL_14 (List.mem_of_getElem? (i := 42) rfl) rfl
theorem m14_63 : Cond.methodLink "HomeSystemModel" 146 ⟨"HomeSystemModel", "receives", "(II)Z"⟩ ∈ AL := AL_14 (List.mem_of_getElem? (i := 63) rfl) rfl
theorem m14_66 : Cond.code ⟨"HomeSystemModel", "receives", "(II)Z"⟩ prog_14_method_18_code 4 (Option.some FieldType.boolean) ∈ AL := AL_14 (List.mem_of_getElem? (i := 66) rfl) rfl
theorem ms_16_1 : Cond.selects "HomeSystemModel" ⟨"HomeSystemModel", "receives", "(II)Z"⟩ ⟨"HomeSystemModel", "receives", "(II)Z"⟩ ∈ AL := AL_p (q := (⟨"HomeSystemModel", "receives", "(II)Z"⟩, 11)) (by unfold lw_privs; exact List.mem_append_right _ (List.mem_append_right _ (List.mem_append_right _ (List.mem_append_right _ (List.mem_append_right _ (List.mem_append_right _ (List.mem_append_right _ (List.mem_append_right _ (List.mem_append_right _ (List.mem_append_right _ (List.mem_append_right _ (List.mem_append_right _ (List.mem_append_right _ (List.mem_append_right _ (List.mem_append_right _ (List.mem_append_left _ (List.mem_of_getElem? (i := 1) rfl)))))))))))))))))
theorem m14_65 : Cond.instanceMethod ⟨"HomeSystemModel", "receives", "(II)Z"⟩ ∈ AL := AL_14 (List.mem_of_getElem? (i := 65) rfl) rfl
theorem m14_75 : Cond.methodLink "HomeSystemModel" 150 ⟨"HomeSystemModel", "asksMore", "(II)Z"⟩ ∈ AL := AL_14 (List.mem_of_getElem? (i := 75) rfl) rfl
theorem m14_78 : Cond.code ⟨"HomeSystemModel", "asksMore", "(II)Z"⟩ prog_14_method_19_code 5 (Option.some FieldType.boolean) ∈ AL := AL_14 (List.mem_of_getElem? (i := 78) rfl) rfl
theorem ms_16_4 : Cond.selects "HomeSystemModel" ⟨"HomeSystemModel", "asksMore", "(II)Z"⟩ ⟨"HomeSystemModel", "asksMore", "(II)Z"⟩ ∈ AL := AL_p (q := (⟨"HomeSystemModel", "asksMore", "(II)Z"⟩, 11)) (by unfold lw_privs; exact List.mem_append_right _ (List.mem_append_right _ (List.mem_append_right _ (List.mem_append_right _ (List.mem_append_right _ (List.mem_append_right _ (List.mem_append_right _ (List.mem_append_right _ (List.mem_append_right _ (List.mem_append_right _ (List.mem_append_right _ (List.mem_append_right _ (List.mem_append_right _ (List.mem_append_right _ (List.mem_append_right _ (List.mem_append_left _ (List.mem_of_getElem? (i := 4) rfl)))))))))))))))))
theorem m14_77 : Cond.instanceMethod ⟨"HomeSystemModel", "asksMore", "(II)Z"⟩ ∈ AL := AL_14 (List.mem_of_getElem? (i := 77) rfl) rfl
theorem m14_79 : Cond.methodLink "HomeSystemModel" 153 ⟨"HomeSystemModel", "spawns", "(III)V"⟩ ∈ AL := AL_14 (List.mem_of_getElem? (i := 79) rfl) rfl
theorem m14_82 : Cond.code ⟨"HomeSystemModel", "spawns", "(III)V"⟩ prog_14_method_20_code 7 (Option.none : Option Jvm.ClassFile.FieldType) ∈ AL := AL_14 (List.mem_of_getElem? (i := 82) rfl) rfl
theorem ms_16_5 : Cond.selects "HomeSystemModel" ⟨"HomeSystemModel", "spawns", "(III)V"⟩ ⟨"HomeSystemModel", "spawns", "(III)V"⟩ ∈ AL := AL_p (q := (⟨"HomeSystemModel", "spawns", "(III)V"⟩, 11)) (by unfold lw_privs; exact List.mem_append_right _ (List.mem_append_right _ (List.mem_append_right _ (List.mem_append_right _ (List.mem_append_right _ (List.mem_append_right _ (List.mem_append_right _ (List.mem_append_right _ (List.mem_append_right _ (List.mem_append_right _ (List.mem_append_right _ (List.mem_append_right _ (List.mem_append_right _ (List.mem_append_right _ (List.mem_append_right _ (List.mem_append_left _ (List.mem_of_getElem? (i := 5) rfl)))))))))))))))))
theorem m14_81 : Cond.instanceMethod ⟨"HomeSystemModel", "spawns", "(III)V"⟩ ∈ AL := AL_14 (List.mem_of_getElem? (i := 81) rfl) rfl
theorem m14_83 : Cond.methodLink "HomeSystemModel" 156 ⟨"HomeSystemModel", "waits", "(II)Z"⟩ ∈ AL := AL_14 (List.mem_of_getElem? (i := 83) rfl) rfl
theorem m14_86 : Cond.code ⟨"HomeSystemModel", "waits", "(II)Z"⟩ prog_14_method_21_code 5 (Option.some FieldType.boolean) ∈ AL := AL_14 (List.mem_of_getElem? (i := 86) rfl) rfl
theorem ms_16_6 : Cond.selects "HomeSystemModel" ⟨"HomeSystemModel", "waits", "(II)Z"⟩ ⟨"HomeSystemModel", "waits", "(II)Z"⟩ ∈ AL := AL_p (q := (⟨"HomeSystemModel", "waits", "(II)Z"⟩, 11)) (by unfold lw_privs; exact List.mem_append_right _ (List.mem_append_right _ (List.mem_append_right _ (List.mem_append_right _ (List.mem_append_right _ (List.mem_append_right _ (List.mem_append_right _ (List.mem_append_right _ (List.mem_append_right _ (List.mem_append_right _ (List.mem_append_right _ (List.mem_append_right _ (List.mem_append_right _ (List.mem_append_right _ (List.mem_append_right _ (List.mem_append_left _ (List.mem_of_getElem? (i := 6) rfl)))))))))))))))))
theorem m14_85 : Cond.instanceMethod ⟨"HomeSystemModel", "waits", "(II)Z"⟩ ∈ AL := AL_14 (List.mem_of_getElem? (i := 85) rfl) rfl
theorem m14_107 : Cond.methodLink "HomeSystemModel" 159 ⟨"HomeSystemModel", "moveArray", "(IZIII)V"⟩ ∈ AL := AL_14 (List.mem_of_getElem? (i := 107) rfl) rfl
theorem m14_110 : Cond.code ⟨"HomeSystemModel", "moveArray", "(IZIII)V"⟩ prog_14_method_24_code 8 (Option.none : Option Jvm.ClassFile.FieldType) ∈ AL := AL_14 (List.mem_of_getElem? (i := 110) rfl) rfl
theorem ms_16_10 : Cond.selects "HomeSystemModel" ⟨"HomeSystemModel", "moveArray", "(IZIII)V"⟩ ⟨"HomeSystemModel", "moveArray", "(IZIII)V"⟩ ∈ AL := AL_p (q := (⟨"HomeSystemModel", "moveArray", "(IZIII)V"⟩, 11)) (by unfold lw_privs; exact List.mem_append_right _ (List.mem_append_right _ (List.mem_append_right _ (List.mem_append_right _ (List.mem_append_right _ (List.mem_append_right _ (List.mem_append_right _ (List.mem_append_right _ (List.mem_append_right _ (List.mem_append_right _ (List.mem_append_right _ (List.mem_append_right _ (List.mem_append_right _ (List.mem_append_right _ (List.mem_append_right _ (List.mem_append_left _ (List.mem_of_getElem? (i := 10) rfl)))))))))))))))))
theorem m14_109 : Cond.instanceMethod ⟨"HomeSystemModel", "moveArray", "(IZIII)V"⟩ ∈ AL := AL_14 (List.mem_of_getElem? (i := 109) rfl) rfl
abbrev b_Mo_ownCall : ByteArray := prog_14_method_23_code
def y_Mo_ownCall : MethodName := ⟨"HomeSystemModel", "ownCall", "(II)Z"⟩
theorem d_Mo_ownCall_0 : decode b_Mo_ownCall 0 = .ok (.aload_n 0, 1) := by decide +kernel
theorem d_Mo_ownCall_1 : decode b_Mo_ownCall 1 = .ok (.getfield 21, 3) := by decide +kernel
theorem d_Mo_ownCall_4 : decode b_Mo_ownCall 4 = .ok (.iload_n 1, 1) := by decide +kernel
theorem d_Mo_ownCall_5 : decode b_Mo_ownCall 5 = .ok (.aaload, 1) := by decide +kernel
theorem d_Mo_ownCall_6 : decode b_Mo_ownCall 6 = .ok (.astore_n 3, 1) := by decide +kernel
theorem d_Mo_ownCall_7 : decode b_Mo_ownCall 7 = .ok (.aload_n 3, 1) := by decide +kernel
theorem d_Mo_ownCall_8 : decode b_Mo_ownCall 8 = .ok (.getfield 133, 3) := by decide +kernel
theorem d_Mo_ownCall_11 : decode b_Mo_ownCall 11 = .ok (.aload_n 3, 1) := by decide +kernel
theorem d_Mo_ownCall_12 : decode b_Mo_ownCall 12 = .ok (.getfield 136, 3) := by decide +kernel
theorem d_Mo_ownCall_15 : decode b_Mo_ownCall 15 = .ok (.iconst 1, 1) := by decide +kernel
theorem d_Mo_ownCall_16 : decode b_Mo_ownCall 16 = .ok (.isub, 1) := by decide +kernel
theorem d_Mo_ownCall_17 : decode b_Mo_ownCall 17 = .ok (.iaload, 1) := by decide +kernel
theorem d_Mo_ownCall_18 : decode b_Mo_ownCall 18 = .ok (.istore 4, 2) := by decide +kernel
theorem d_Mo_ownCall_20 : decode b_Mo_ownCall 20 = .ok (.aload_n 3, 1) := by decide +kernel
theorem d_Mo_ownCall_21 : decode b_Mo_ownCall 21 = .ok (.getfield 136, 3) := by decide +kernel
theorem d_Mo_ownCall_24 : decode b_Mo_ownCall 24 = .ok (.iconst 1, 1) := by decide +kernel
theorem d_Mo_ownCall_25 : decode b_Mo_ownCall 25 = .ok (.if_icmp .le 17, 3) := by decide +kernel
theorem d_Mo_ownCall_28 : decode b_Mo_ownCall 28 = .ok (.aload_n 3, 1) := by decide +kernel
theorem d_Mo_ownCall_29 : decode b_Mo_ownCall 29 = .ok (.getfield 133, 3) := by decide +kernel
theorem d_Mo_ownCall_32 : decode b_Mo_ownCall 32 = .ok (.aload_n 3, 1) := by decide +kernel
theorem d_Mo_ownCall_33 : decode b_Mo_ownCall 33 = .ok (.getfield 136, 3) := by decide +kernel
theorem d_Mo_ownCall_36 : decode b_Mo_ownCall 36 = .ok (.iconst 2, 1) := by decide +kernel
theorem d_Mo_ownCall_37 : decode b_Mo_ownCall 37 = .ok (.isub, 1) := by decide +kernel
theorem d_Mo_ownCall_38 : decode b_Mo_ownCall 38 = .ok (.iaload, 1) := by decide +kernel
theorem d_Mo_ownCall_39 : decode b_Mo_ownCall 39 = .ok (.goto 4, 3) := by decide +kernel
theorem d_Mo_ownCall_42 : decode b_Mo_ownCall 42 = .ok (.iconst 0, 1) := by decide +kernel
theorem d_Mo_ownCall_43 : decode b_Mo_ownCall 43 = .ok (.istore 5, 2) := by decide +kernel
theorem d_Mo_ownCall_45 : decode b_Mo_ownCall 45 = .ok (.aload_n 0, 1) := by decide +kernel
theorem d_Mo_ownCall_46 : decode b_Mo_ownCall 46 = .ok (.iconst 0, 1) := by decide +kernel
theorem d_Mo_ownCall_47 : decode b_Mo_ownCall 47 = .ok (.putfield 111, 3) := by decide +kernel
theorem d_Mo_ownCall_50 : decode b_Mo_ownCall 50 = .ok (.iconst 1, 1) := by decide +kernel
theorem d_Mo_ownCall_51 : decode b_Mo_ownCall 51 = .ok (.istore 6, 2) := by decide +kernel
theorem d_Mo_ownCall_53 : decode b_Mo_ownCall 53 = .ok (.iconst 1, 1) := by decide +kernel
theorem d_Mo_ownCall_54 : decode b_Mo_ownCall 54 = .ok (.istore 7, 2) := by decide +kernel
theorem d_Mo_ownCall_56 : decode b_Mo_ownCall 56 = .ok (.iload_n 2, 1) := by decide +kernel
theorem d_Mo_ownCall_57 : decode b_Mo_ownCall 57 = .ok (.tableswitch 177 0 8 #[51, 63, 72, 89, 101, 113, 128, 140, 140], 51) := by decide +kernel
theorem d_Mo_ownCall_108 : decode b_Mo_ownCall 108 = .ok (.aload_n 0, 1) := by decide +kernel
theorem d_Mo_ownCall_109 : decode b_Mo_ownCall 109 = .ok (.iload 4, 2) := by decide +kernel
theorem d_Mo_ownCall_111 : decode b_Mo_ownCall 111 = .ok (.putfield 111, 3) := by decide +kernel
theorem d_Mo_ownCall_114 : decode b_Mo_ownCall 114 = .ok (.iconst 2, 1) := by decide +kernel
theorem d_Mo_ownCall_115 : decode b_Mo_ownCall 115 = .ok (.istore 7, 2) := by decide +kernel
theorem d_Mo_ownCall_117 : decode b_Mo_ownCall 117 = .ok (.goto 124, 3) := by decide +kernel
theorem d_Mo_ownCall_120 : decode b_Mo_ownCall 120 = .ok (.aload_n 3, 1) := by decide +kernel
theorem d_Mo_ownCall_121 : decode b_Mo_ownCall 121 = .ok (.iload 4, 2) := by decide +kernel
theorem d_Mo_ownCall_123 : decode b_Mo_ownCall 123 = .ok (.invokevirtual 139, 3) := by decide +kernel
theorem d_Mo_ownCall_126 : decode b_Mo_ownCall 126 = .ok (.goto 115, 3) := by decide +kernel
theorem d_Mo_ownCall_129 : decode b_Mo_ownCall 129 = .ok (.aload_n 0, 1) := by decide +kernel
theorem d_Mo_ownCall_130 : decode b_Mo_ownCall 130 = .ok (.iload_n 1, 1) := by decide +kernel
theorem d_Mo_ownCall_131 : decode b_Mo_ownCall 131 = .ok (.iload 5, 2) := by decide +kernel
theorem d_Mo_ownCall_133 : decode b_Mo_ownCall 133 = .ok (.iload 4, 2) := by decide +kernel
theorem d_Mo_ownCall_135 : decode b_Mo_ownCall 135 = .ok (.invokevirtual 142, 3) := by decide +kernel
theorem d_Mo_ownCall_138 : decode b_Mo_ownCall 138 = .ok (.istore 6, 2) := by decide +kernel
theorem d_Mo_ownCall_140 : decode b_Mo_ownCall 140 = .ok (.iconst 2, 1) := by decide +kernel
theorem d_Mo_ownCall_141 : decode b_Mo_ownCall 141 = .ok (.istore 7, 2) := by decide +kernel
theorem d_Mo_ownCall_143 : decode b_Mo_ownCall 143 = .ok (.goto 98, 3) := by decide +kernel
theorem d_Mo_ownCall_146 : decode b_Mo_ownCall 146 = .ok (.aload_n 0, 1) := by decide +kernel
theorem d_Mo_ownCall_147 : decode b_Mo_ownCall 147 = .ok (.iload_n 1, 1) := by decide +kernel
theorem d_Mo_ownCall_148 : decode b_Mo_ownCall 148 = .ok (.iload 4, 2) := by decide +kernel
theorem d_Mo_ownCall_150 : decode b_Mo_ownCall 150 = .ok (.invokevirtual 146, 3) := by decide +kernel
theorem d_Mo_ownCall_153 : decode b_Mo_ownCall 153 = .ok (.istore 6, 2) := by decide +kernel
theorem d_Mo_ownCall_155 : decode b_Mo_ownCall 155 = .ok (.goto 86, 3) := by decide +kernel
theorem d_Mo_ownCall_158 : decode b_Mo_ownCall 158 = .ok (.aload_n 0, 1) := by decide +kernel
theorem d_Mo_ownCall_159 : decode b_Mo_ownCall 159 = .ok (.iload_n 1, 1) := by decide +kernel
theorem d_Mo_ownCall_160 : decode b_Mo_ownCall 160 = .ok (.iload 4, 2) := by decide +kernel
theorem d_Mo_ownCall_162 : decode b_Mo_ownCall 162 = .ok (.invokevirtual 150, 3) := by decide +kernel
theorem d_Mo_ownCall_165 : decode b_Mo_ownCall 165 = .ok (.istore 6, 2) := by decide +kernel
theorem d_Mo_ownCall_167 : decode b_Mo_ownCall 167 = .ok (.goto 74, 3) := by decide +kernel
theorem d_Mo_ownCall_170 : decode b_Mo_ownCall 170 = .ok (.aload_n 0, 1) := by decide +kernel
theorem d_Mo_ownCall_171 : decode b_Mo_ownCall 171 = .ok (.iload_n 1, 1) := by decide +kernel
theorem d_Mo_ownCall_172 : decode b_Mo_ownCall 172 = .ok (.iload 5, 2) := by decide +kernel
theorem d_Mo_ownCall_174 : decode b_Mo_ownCall 174 = .ok (.iload 4, 2) := by decide +kernel
theorem d_Mo_ownCall_176 : decode b_Mo_ownCall 176 = .ok (.invokevirtual 153, 3) := by decide +kernel
theorem d_Mo_ownCall_179 : decode b_Mo_ownCall 179 = .ok (.iconst 2, 1) := by decide +kernel
theorem d_Mo_ownCall_180 : decode b_Mo_ownCall 180 = .ok (.istore 7, 2) := by decide +kernel
theorem d_Mo_ownCall_182 : decode b_Mo_ownCall 182 = .ok (.goto 59, 3) := by decide +kernel
theorem d_Mo_ownCall_185 : decode b_Mo_ownCall 185 = .ok (.aload_n 0, 1) := by decide +kernel
theorem d_Mo_ownCall_186 : decode b_Mo_ownCall 186 = .ok (.iload_n 1, 1) := by decide +kernel
theorem d_Mo_ownCall_187 : decode b_Mo_ownCall 187 = .ok (.iload 4, 2) := by decide +kernel
theorem d_Mo_ownCall_189 : decode b_Mo_ownCall 189 = .ok (.invokevirtual 156, 3) := by decide +kernel
theorem d_Mo_ownCall_192 : decode b_Mo_ownCall 192 = .ok (.istore 6, 2) := by decide +kernel
theorem d_Mo_ownCall_194 : decode b_Mo_ownCall 194 = .ok (.goto 47, 3) := by decide +kernel
theorem d_Mo_ownCall_197 : decode b_Mo_ownCall 197 = .ok (.aload_n 0, 1) := by decide +kernel
theorem d_Mo_ownCall_198 : decode b_Mo_ownCall 198 = .ok (.iload_n 1, 1) := by decide +kernel
theorem d_Mo_ownCall_199 : decode b_Mo_ownCall 199 = .ok (.iload_n 2, 1) := by decide +kernel
theorem d_Mo_ownCall_200 : decode b_Mo_ownCall 200 = .ok (.bipush 7, 2) := by decide +kernel
theorem d_Mo_ownCall_202 : decode b_Mo_ownCall 202 = .ok (.if_icmp .ne 7, 3) := by decide +kernel
theorem d_Mo_ownCall_205 : decode b_Mo_ownCall 205 = .ok (.iconst 1, 1) := by decide +kernel
theorem d_Mo_ownCall_206 : decode b_Mo_ownCall 206 = .ok (.goto 4, 3) := by decide +kernel
theorem d_Mo_ownCall_209 : decode b_Mo_ownCall 209 = .ok (.iconst 0, 1) := by decide +kernel
theorem d_Mo_ownCall_210 : decode b_Mo_ownCall 210 = .ok (.aload_n 3, 1) := by decide +kernel
theorem d_Mo_ownCall_211 : decode b_Mo_ownCall 211 = .ok (.getfield 133, 3) := by decide +kernel
theorem d_Mo_ownCall_214 : decode b_Mo_ownCall 214 = .ok (.aload_n 3, 1) := by decide +kernel
theorem d_Mo_ownCall_215 : decode b_Mo_ownCall 215 = .ok (.getfield 136, 3) := by decide +kernel
theorem d_Mo_ownCall_218 : decode b_Mo_ownCall 218 = .ok (.iconst 3, 1) := by decide +kernel
theorem d_Mo_ownCall_219 : decode b_Mo_ownCall 219 = .ok (.isub, 1) := by decide +kernel
theorem d_Mo_ownCall_220 : decode b_Mo_ownCall 220 = .ok (.iaload, 1) := by decide +kernel
theorem d_Mo_ownCall_221 : decode b_Mo_ownCall 221 = .ok (.iload 5, 2) := by decide +kernel
theorem d_Mo_ownCall_223 : decode b_Mo_ownCall 223 = .ok (.iload 4, 2) := by decide +kernel
theorem d_Mo_ownCall_225 : decode b_Mo_ownCall 225 = .ok (.invokevirtual 159, 3) := by decide +kernel
theorem d_Mo_ownCall_228 : decode b_Mo_ownCall 228 = .ok (.iconst 3, 1) := by decide +kernel
theorem d_Mo_ownCall_229 : decode b_Mo_ownCall 229 = .ok (.istore 7, 2) := by decide +kernel
theorem d_Mo_ownCall_231 : decode b_Mo_ownCall 231 = .ok (.goto 10, 3) := by decide +kernel
theorem d_Mo_ownCall_234 : decode b_Mo_ownCall 234 = .ok (.aload_n 3, 1) := by decide +kernel
theorem d_Mo_ownCall_235 : decode b_Mo_ownCall 235 = .ok (.iconst 1, 1) := by decide +kernel
theorem d_Mo_ownCall_236 : decode b_Mo_ownCall 236 = .ok (.iload 4, 2) := by decide +kernel
theorem d_Mo_ownCall_238 : decode b_Mo_ownCall 238 = .ok (.invokevirtual 85, 3) := by decide +kernel
theorem d_Mo_ownCall_241 : decode b_Mo_ownCall 241 = .ok (.iload 6, 2) := by decide +kernel
theorem d_Mo_ownCall_243 : decode b_Mo_ownCall 243 = .ok (.ifCond .eq 22, 3) := by decide +kernel
theorem d_Mo_ownCall_246 : decode b_Mo_ownCall 246 = .ok (.aload_n 3, 1) := by decide +kernel
theorem d_Mo_ownCall_247 : decode b_Mo_ownCall 247 = .ok (.aload_n 3, 1) := by decide +kernel
theorem d_Mo_ownCall_248 : decode b_Mo_ownCall 248 = .ok (.getfield 136, 3) := by decide +kernel
theorem d_Mo_ownCall_251 : decode b_Mo_ownCall 251 = .ok (.iload 7, 2) := by decide +kernel
theorem d_Mo_ownCall_253 : decode b_Mo_ownCall 253 = .ok (.isub, 1) := by decide +kernel
theorem d_Mo_ownCall_254 : decode b_Mo_ownCall 254 = .ok (.putfield 136, 3) := by decide +kernel
theorem d_Mo_ownCall_257 : decode b_Mo_ownCall 257 = .ok (.aload_n 3, 1) := by decide +kernel
theorem d_Mo_ownCall_258 : decode b_Mo_ownCall 258 = .ok (.aload_n 0, 1) := by decide +kernel
theorem d_Mo_ownCall_259 : decode b_Mo_ownCall 259 = .ok (.getfield 111, 3) := by decide +kernel
theorem d_Mo_ownCall_262 : decode b_Mo_ownCall 262 = .ok (.invokevirtual 163, 3) := by decide +kernel
theorem d_Mo_ownCall_265 : decode b_Mo_ownCall 265 = .ok (.iload 6, 2) := by decide +kernel
theorem d_Mo_ownCall_267 : decode b_Mo_ownCall 267 = .ok (.ireturn, 1) := by decide +kernel
theorem q_Mo_ownCall : px_y y_Mo_ownCall 2 := by unfold px_y; decide +kernel
set_option maxHeartbeats 4000000 in
set_option maxRecDepth 100000 in
theorem c_mo_ownCall (l : Launch) (D : va_G) (cs : Nat → ClassId) (RR : Nat → Int) (j9 : Nat) (mo : Nat) (mr : Nat → Nat) (mf : Nat → Int32) (md : Nat → Nat → Int32) (hq : Nat → Nat) (qr : Nat → Nat → Nat) (QO : Nat → Option Nat) (QF : Nat → Nat → Int32) (QA : Nat → Nat → Nat → Int32) (PG : Nat → Pgs) (p0 p1 : Int32)  (g0 : 0 ≤ p0.toInt) (g1 : p0.toInt < 13) (g2 : 0 ≤ (mf 7).toInt) (g3 : (mf 7).toInt ≤ 100) (g4 : 0 ≤ (mf 8).toInt) (g5 : (mf 8).toInt ≤ 512) (g6 : 0 ≤ p1.toInt) (g7 : p1.toInt < 10) (g8 : (QF p0.toNatClampNeg 1).toInt = 1) (hpr : PrA PG RR QO QF QA) (hpg : PgA PG) (hpo : PoT (PG j9) (RR p0.toNatClampNeg) p1.toInt (QF p0.toNatClampNeg) (QA p0.toNatClampNeg)) : MetI l y_Mo_ownCall b_Mo_ownCall 8 (.boolean) D cs 5 220 (0) (0) [.ref mo, .int p0, .int p1] [wd_Mo cs mo mr (fun _ => none) mf md (gMo PG hq), fm 13 (fPr cs hq qr QO QF QA), fm 8 (fPg cs PG)] (fun _ => True) (fun v ps => ∃ (mf' : Nat → Int32) (md' : Nat → Nat → Int32) (QO' : Nat → Option Nat) (QF' : Nat → Nat → Int32) (QA' : Nat → Nat → Nat → Int32), (ps = [wd_Mo cs mo mr (fun _ => none) mf' md' (gMo PG hq), fm 13 (fPr cs hq qr QO' QF' QA'), fm 8 (fPg cs PG)]) ∧ (0 ≤ v.toInt) ∧ (v.toInt ≤ 1) ∧ (OwQ v.toInt (PrA PG RR QO' QF' QA') (PrX PG RR QO' QF' QA' p0.toNatClampNeg ∧ PdT (PG j9) (RR p0.toNatClampNeg) (QF' p0.toNatClampNeg) (QA' p0.toNatClampNeg))) ∧ (KpO QO QF QO' QF' p0.toNatClampNeg) ∧ ((mf' 0).toInt = (mf 0).toInt) ∧ ((mf' 2).toInt = (mf 2).toInt) ∧ ((mf' 3).toInt = (mf 3).toInt) ∧ ((mf' 7).toInt = (mf 7).toInt) ∧ ((mf' 8).toInt = (mf 8).toInt) ∧ ((mf' 10).toInt = (mf 10).toInt) ∧ (Md1 md md')) := by
  refine px_enter (by decide) (Nat.le_of_ble_eq_true rfl) ?_
  intro p e s m below meth c A ls hAe S hr hlk hnm hA hT hX hw hl
  have hl : lv_has ls 8 [(0, .ref mo), (1, .int p0), (2, .int p1)] := hl
  have lp0 := Int32.le_toInt p0
  have up0 := Int32.toInt_lt p0
  have lp1 := Int32.le_toInt p1
  have up1 := Int32.toInt_lt p1
  have cst0 : (0 : Int32).toInt = 0 := rfl
  have cst1 : (1 : Int32).toInt = 1 := rfl
  have cst2 : (2 : Int32).toInt = 2 := rfl
  have cst3 : (3 : Int32).toInt = 3 := rfl
  have cst7 : (7 : Int32).toInt = 7 := rfl
  have hmdq : Md1 md md := rfl
  have hkp : KpP QO QF QA QO QF QA p0.toNatClampNeg := KpP.rf
  have hpn := hpo.num
  have hol := os_l (own := p1.toInt)
  refine lv_aload_n S.x S.b d_Mo_ownCall_0 rfl (lv_at hl 0 rfl) ?_
  refine px_get S k_Mo hT hw 0 0 5 (v := .ref (mr 5)) rfl rfl rfl (by decide) m11_83 d_Mo_ownCall_1 ?_
  refine lv_iload_n S.x S.b d_Mo_ownCall_4 rfl (lv_at hl 1 rfl) ?_
  refine px_aaldS S hT hw 0 3 10 (n := 13) (f := ((gMo PG hq) 5)) rfl rfl rfl (x := p0) (vp_in_iff.mpr (by first | exact oz_59feca6c45 g0 g1 | (constructor <;> omega))) (sk := (hq p0.toNatClampNeg)) rfl d_Mo_ownCall_5 ?_
  refine lv_astore_n (lv' := [(3, .ref (hq p0.toNatClampNeg)), (0, .ref mo), (1, .int p0), (2, .int p1)]) S.x S.b d_Mo_ownCall_6 rfl hl (by decide) rfl (fun ls hl => ?_)
  refine lv_aload_n S.x S.b d_Mo_ownCall_7 rfl (lv_at hl 0 rfl) ?_
  have hw : pw D A s.heap _ _ [wd_Mo cs mo mr (fun _ => none) mf md (gMo PG hq), fm 8 (fPg cs PG), fm 13 (fPr cs hq qr QO QF QA)] := hw.sub [0, 2, 1] rfl rfl
  have hc1 := cl_nat (x := p0) (by first | exact g0 | omega)
  have hi1 : p0.toNatClampNeg < 13 := by first | exact oz_9995642664 hc1 g1 | omega
  have hw : pw D A s.heap _ _ [wd_Mo cs mo mr (fun _ => none) mf md (gMo PG hq), fm 8 (fPg cs PG), fo 13 (fPr cs hq qr QO QF QA) p0.toNatClampNeg, wd_Mpr cs (hq p0.toNatClampNeg) (qr p0.toNatClampNeg) (fun _ => QO p0.toNatClampNeg) (QF p0.toNatClampNeg) (QA p0.toNatClampNeg) (fun _ _ => none)] := fm_out (pr := [wd_Mo cs mo mr (fun _ => none) mf md (gMo PG hq), fm 8 (fPg cs PG)]) (T := fPr cs hq qr QO QF QA) hw hi1
  have hps1 := hpr.1 p0.toNatClampNeg hi1
  have hpb1 := hps1.1
  unfold PsB at hpb1
  refine px_get S k_Mpr hT hw 3 0 9 (v := .ref ((qr p0.toNatClampNeg) 9)) rfl rfl rfl (by decide) m10_239 d_Mo_ownCall_8 ?_
  refine lv_aload_n S.x S.b d_Mo_ownCall_11 rfl (lv_at hl 0 rfl) ?_
  refine px_get S k_Mpr hT hw 3 0 10 (v := .int ((QF p0.toNatClampNeg) 10)) rfl rfl rfl (by decide) m11_1 d_Mo_ownCall_12 ?_
  refine lv_iconst (v := 1) S.x S.b d_Mo_ownCall_15 (by decide) ?_
  refine lv_isub S.x S.b d_Mo_ownCall_16 ?_
  have lr2 := Int32.le_toInt ((QF p0.toNatClampNeg) 10)
  have ur2 := Int32.toInt_lt ((QF p0.toNatClampNeg) 10)
  refine lv_topi (fun z3 ez3 => ?_)
  have tz3 : z3.toInt = (((QF p0.toNatClampNeg) 10).toInt - (1 : Int) + 2147483648) % 4294967296 - 2147483648 := by rw [ez3]; exact i_sub ((QF p0.toNatClampNeg) 10) 1
  have lz3 := Int32.le_toInt z3
  have uz3 := Int32.toInt_lt z3
  try replace tz3 : z3.toInt = ((QF p0.toNatClampNeg) 10).toInt - (1 : Int) := by omega
  refine px_iald S hT hw 3 2 (n := 62500) (f := ((QA p0.toNatClampNeg) 9)) rfl (ga_Mpr_9 _ _ _ _ _ _ _) (x := z3) (vp_in_iff.mpr (by constructor <;> omega)) d_Mo_ownCall_17 ?_
  refine lv_topi (fun z4 ez4 => ?_)
  have lz4 := Int32.le_toInt z4
  have uz4 := Int32.toInt_lt z4
  have hx4 : z4 = (QA p0.toNatClampNeg) 9 ((QF p0.toNatClampNeg 10).toInt - 1).toNat := at_k (qa := QA p0.toNatClampNeg) (k := 9) ez4 (by omega) (by omega)
  refine lv_istore (lv' := [(4, .int z4), (3, .ref (hq p0.toNatClampNeg)), (0, .ref mo), (1, .int p0), (2, .int p1)]) S.x S.b d_Mo_ownCall_18 hl (by decide) rfl (fun ls hl => ?_)
  refine lv_aload_n S.x S.b d_Mo_ownCall_20 rfl (lv_at hl 1 rfl) ?_
  refine px_get S k_Mpr hT hw 3 0 10 (v := .int ((QF p0.toNatClampNeg) 10)) rfl rfl rfl (by decide) m11_1 d_Mo_ownCall_21 ?_
  refine lv_iconst (v := 1) S.x S.b d_Mo_ownCall_24 (by decide) ?_
  refine lv_icmp_le (tgt := 42) S.x S.b d_Mo_ownCall_25 (by decide) (fun c5 => ?_) (fun c5 => ?_)
  · have nc5 : ((QF p0.toNatClampNeg) 10).toInt ≤ (1 : Int) := (i_le (x := ((QF p0.toNatClampNeg) 10)) (y := 1)).mp c5
    refine lv_iconst (v := 0) S.x S.b d_Mo_ownCall_42 (by decide) ?_
    refine lv_istore (lv' := [(5, .int 0), (4, .int z4), (3, .ref (hq p0.toNatClampNeg)), (0, .ref mo), (1, .int p0), (2, .int p1)]) S.x S.b d_Mo_ownCall_43 hl (by decide) rfl (fun ls hl => ?_)
    refine lv_aload_n S.x S.b d_Mo_ownCall_45 rfl (lv_at hl 3 rfl) ?_
    refine lv_iconst (v := 0) S.x S.b d_Mo_ownCall_46 (by decide) ?_
    refine px_put S k_Mo hT hw 0 0 9 rfl rfl (by decide) m11_87 rfl rfl rfl (Nat.le_of_ble_eq_true rfl) d_Mo_ownCall_47 (w' := wd_Mo cs mo mr (fun _ => none) (upd mf 9 0) md (gMo PG hq)) (ps' := [wd_Mo cs mo mr (fun _ => none) (upd mf 9 0) md (gMo PG hq), fm 8 (fPg cs PG), fo 13 (fPr cs hq qr QO QF QA) p0.toNatClampNeg, wd_Mpr cs (hq p0.toNatClampNeg) (qr p0.toNatClampNeg) (fun _ => QO p0.toNatClampNeg) (QF p0.toNatClampNeg) (QA p0.toNatClampNeg) (fun _ _ => none)]) rfl rfl (fun H locs hw => ?_)
    refine lv_iconst (v := 1) S.x S.b d_Mo_ownCall_50 (by decide) ?_
    refine lv_istore (lv' := [(6, .int 1), (5, .int 0), (4, .int z4), (3, .ref (hq p0.toNatClampNeg)), (0, .ref mo), (1, .int p0), (2, .int p1)]) S.x S.b d_Mo_ownCall_51 hl (by decide) rfl (fun ls hl => ?_)
    refine lv_iconst (v := 1) S.x S.b d_Mo_ownCall_53 (by decide) ?_
    refine lv_istore (lv' := [(7, .int 1), (6, .int 1), (5, .int 0), (4, .int z4), (3, .ref (hq p0.toNatClampNeg)), (0, .ref mo), (1, .int p0), (2, .int p1)]) S.x S.b d_Mo_ownCall_54 hl (by decide) rfl (fun ls hl => ?_)
    refine lv_iload_n S.x S.b d_Mo_ownCall_56 rfl (lv_at hl 7 rfl) ?_
    refine px_tableD S (dt := 234) [(108, [0]), (120, [1]), (129, [2]), (146, [3]), (158, [4]), (170, [5]), (185, [6]), (197, [7, 8])] d_Mo_ownCall_57 (by decide +kernel) (by decide) (by decide +kernel) ?_ ?_
    · intro hdf_57
      refine lv_aload_n S.x S.b d_Mo_ownCall_234 rfl (lv_at hl 4 rfl) ?_
      refine lv_iconst (v := 1) S.x S.b d_Mo_ownCall_235 (by decide) ?_
      refine lv_iload S.x S.b d_Mo_ownCall_236 (lv_at hl 3 rfl) ?_
      refine px_callv (pr := [wd_Mo cs mo mr (fun _ => none) (upd mf 9 0) md (gMo PG hq), fm 8 (fPg cs PG), fo 13 (fPr cs hq qr QO QF QA) p0.toNatClampNeg]) (px_runV (As := [.int 1, .int z4]) (rest := []) S (c_mq_end l D cs (hq p0.toNatClampNeg) (qr p0.toNatClampNeg) (fun _ _ => none) (fun _ => QO p0.toNatClampNeg) (QA p0.toNatClampNeg) (QF p0.toNatClampNeg) 1 z4   _) hT (pr := [wd_Mo cs mo mr (fun _ => none) (upd mf 9 0) md (gMo PG hq), fm 8 (fPg cs PG), fo 13 (fPr cs hq qr QO QF QA) p0.toNatClampNeg]) (pcs := [wd_Mpr cs (hq p0.toNatClampNeg) (qr p0.toNatClampNeg) (fun _ => QO p0.toNatClampNeg) (QF p0.toNatClampNeg) (QA p0.toNatClampNeg) (fun _ _ => none)]) hw px_X.tt (px_recv hT hw 3 0 rfl rfl rfl) m13_177 m14_35 m13_175 m13_176 m1_22 q_Mpr_end ⟨Nat.le_of_ble_eq_true rfl, Nat.le_of_ble_eq_true rfl⟩ hl.1 rfl (Nat.le_of_ble_eq_true rfl) d_Mo_ownCall_238 ⟨Nat.le_of_ble_eq_true rfl, Nat.le_of_ble_eq_true rfl⟩) hw hA (fun p10 H locs hp10 hw => ?_)
      obtain ⟨qf9, rfl, e12, e13, e14, e15, e16, e17, e18, e19, e20, e21, e22, e23, e24, e25⟩ := hp10
      have e12 : (qf9 2).toInt = (1 : Int) := e12
      have e13 : (qf9 1).toInt = ((QF p0.toNatClampNeg) 1).toInt := e13
      have e14 : (qf9 4).toInt = ((QF p0.toNatClampNeg) 4).toInt := e14
      have e15 : (qf9 5).toInt = ((QF p0.toNatClampNeg) 5).toInt := e15
      have e16 : (qf9 6).toInt = ((QF p0.toNatClampNeg) 6).toInt := e16
      have e17 : (qf9 7).toInt = ((QF p0.toNatClampNeg) 7).toInt := e17
      have e18 : (qf9 10).toInt = ((QF p0.toNatClampNeg) 10).toInt := e18
      have e19 : (qf9 11).toInt = ((QF p0.toNatClampNeg) 11).toInt := e19
      have e20 : (qf9 12).toInt = ((QF p0.toNatClampNeg) 12).toInt := e20
      have e21 : (qf9 13).toInt = ((QF p0.toNatClampNeg) 13).toInt := e21
      have e22 : (qf9 14).toInt = ((QF p0.toNatClampNeg) 14).toInt := e22
      have e23 : (qf9 21).toInt = ((QF p0.toNatClampNeg) 21).toInt := e23
      have e24 : (qf9 23).toInt = ((QF p0.toNatClampNeg) 23).toInt := e24
      have e25 : (qf9 24).toInt = ((QF p0.toNatClampNeg) 24).toInt := e25
      have hw : pw D A s.heap H locs [wd_Mo cs mo mr (fun _ => none) (upd mf 9 0) md (gMo PG hq), fm 8 (fPg cs PG), fo 13 (fPr cs hq qr QO QF QA) p0.toNatClampNeg, wd_Mpr cs (hq p0.toNatClampNeg) (qr p0.toNatClampNeg) (fun _ => QO p0.toNatClampNeg) qf9 (QA p0.toNatClampNeg) (fun _ _ => none)] := hw
      refine lv_iload S.x S.b d_Mo_ownCall_241 (lv_at hl 1 rfl) ?_
      refine lv_if_eq (tgt := 265) S.x S.b d_Mo_ownCall_243 (by decide) (fun c26 => ?_) (fun c26 => ?_)
      · exact absurd c26 (by decide)
      ·
        refine lv_aload_n S.x S.b d_Mo_ownCall_246 rfl (lv_at hl 4 rfl) ?_
        have hkf := hkp.2.1; unfold KpF at hkf
        refine lv_aload_n S.x S.b d_Mo_ownCall_247 rfl (lv_at hl 4 rfl) ?_
        refine px_get S k_Mpr hT hw 3 0 10 (v := .int (qf9 10)) rfl rfl rfl (by decide) m11_1 d_Mo_ownCall_248 ?_
        refine lv_iload S.x S.b d_Mo_ownCall_251 (lv_at hl 0 rfl) ?_
        refine lv_isub S.x S.b d_Mo_ownCall_253 ?_
        have lr27 := Int32.le_toInt (qf9 10)
        have ur27 := Int32.toInt_lt (qf9 10)
        refine lv_topi (fun z28 ez28 => ?_)
        have tz28 : z28.toInt = ((qf9 10).toInt - (1 : Int) + 2147483648) % 4294967296 - 2147483648 := by rw [ez28]; exact i_sub (qf9 10) 1
        have lz28 := Int32.le_toInt z28
        have uz28 := Int32.toInt_lt z28
        try replace tz28 : z28.toInt = (qf9 10).toInt - (1 : Int) := by omega
        refine px_put S k_Mpr hT hw 3 0 10 rfl rfl (by decide) m11_1 rfl rfl rfl (Nat.le_of_ble_eq_true rfl) d_Mo_ownCall_254 (w' := wd_Mpr cs (hq p0.toNatClampNeg) (qr p0.toNatClampNeg) (fun _ => QO p0.toNatClampNeg) (upd qf9 10 z28) (QA p0.toNatClampNeg) (fun _ _ => none)) (ps' := [wd_Mo cs mo mr (fun _ => none) (upd mf 9 0) md (gMo PG hq), fm 8 (fPg cs PG), fo 13 (fPr cs hq qr QO QF QA) p0.toNatClampNeg, wd_Mpr cs (hq p0.toNatClampNeg) (qr p0.toNatClampNeg) (fun _ => QO p0.toNatClampNeg) (upd qf9 10 z28) (QA p0.toNatClampNeg) (fun _ _ => none)]) rfl rfl (fun H locs hw => ?_)
        refine lv_aload_n S.x S.b d_Mo_ownCall_257 rfl (lv_at hl 4 rfl) ?_
        refine lv_aload_n S.x S.b d_Mo_ownCall_258 rfl (lv_at hl 5 rfl) ?_
        refine px_get S k_Mo hT hw 0 0 9 (v := .int 0) rfl rfl rfl (by decide) m11_87 d_Mo_ownCall_259 ?_
        refine px_callv (pr := [wd_Mo cs mo mr (fun _ => none) (upd mf 9 0) md (gMo PG hq), fm 8 (fPg cs PG), fo 13 (fPr cs hq qr QO QF QA) p0.toNatClampNeg]) (px_runV (As := [.int 0]) (rest := []) S (c_mq_give l D cs (hq p0.toNatClampNeg) (qr p0.toNatClampNeg) (fun _ _ => none) (fun _ => QO p0.toNatClampNeg) (upd qf9 10 z28) (QA p0.toNatClampNeg) 0  (show 0 ≤ z28.toInt from by omega) (show z28.toInt < 62500 from by first | exact oz_2e4f4c116e tz28 e18 nc5 | omega) _) hT (pr := [wd_Mo cs mo mr (fun _ => none) (upd mf 9 0) md (gMo PG hq), fm 8 (fPg cs PG), fo 13 (fPr cs hq qr QO QF QA) p0.toNatClampNeg]) (pcs := [wd_Mpr cs (hq p0.toNatClampNeg) (qr p0.toNatClampNeg) (fun _ => QO p0.toNatClampNeg) (upd qf9 10 z28) (QA p0.toNatClampNeg) (fun _ _ => none)]) hw px_X.tt (px_recv hT hw 3 0 rfl rfl rfl) m13_161 m14_111 m13_159 m13_160 m1_22 q_Mpr_give ⟨Nat.le_of_ble_eq_true rfl, Nat.le_of_ble_eq_true rfl⟩ hl.1 rfl (Nat.le_of_ble_eq_true rfl) d_Mo_ownCall_262 ⟨Nat.le_of_ble_eq_true rfl, Nat.le_of_ble_eq_true rfl⟩) hw hA (fun p33 H locs hp33 hw => ?_)
        obtain ⟨qf31, qa32, rfl, e35, e36, e37, e38, e39, e40, e41, e42, e43, e44, e45, e46, e47, e48, e49, e50⟩ := hp33
        have e35 : (qf31 10).toInt = z28.toInt + 1 := e35
        have e36 : (qf31 1).toInt = (qf9 1).toInt := e36
        have e37 : (qf31 2).toInt = (qf9 2).toInt := e37
        have e38 : (qf31 3).toInt = (qf9 3).toInt := e38
        have e39 : (qf31 4).toInt = (qf9 4).toInt := e39
        have e40 : (qf31 5).toInt = (qf9 5).toInt := e40
        have e41 : (qf31 6).toInt = (qf9 6).toInt := e41
        have e42 : (qf31 7).toInt = (qf9 7).toInt := e42
        have e43 : (qf31 11).toInt = (qf9 11).toInt := e43
        have e44 : (qf31 12).toInt = (qf9 12).toInt := e44
        have e45 : (qf31 13).toInt = (qf9 13).toInt := e45
        have e46 : (qf31 14).toInt = (qf9 14).toInt := e46
        have e47 : (qf31 21).toInt = (qf9 21).toInt := e47
        have e48 : (qf31 23).toInt = (qf9 23).toInt := e48
        have e49 : (qf31 24).toInt = (qf9 24).toInt := e49
        have e50 : NuU (QA p0.toNatClampNeg) qa32 9 z28.toInt (0 : Int32) := e50
        skip
        have hw : pw D A s.heap H locs [wd_Mo cs mo mr (fun _ => none) (upd mf 9 0) md (gMo PG hq), fm 8 (fPg cs PG), fo 13 (fPr cs hq qr QO QF QA) p0.toNatClampNeg, wd_Mpr cs (hq p0.toNatClampNeg) (qr p0.toNatClampNeg) (fun _ => QO p0.toNatClampNeg) qf31 qa32 (fun _ _ => none)] := hw
        refine lv_iload S.x S.b d_Mo_ownCall_265 (lv_at hl 1 rfl) ?_
        have hw := fpr_in (pr := [wd_Mo cs mo mr (fun _ => none) (upd mf 9 0) md (gMo PG hq), fm 8 (fPg cs PG)]) hw hi1
        obtain ⟨QO51, hu_QO51⟩ : ∃ y : Nat → Option Nat, y = va_up QO p0.toNatClampNeg ((fun _ => QO p0.toNatClampNeg) 0) := ⟨_, rfl⟩
        obtain ⟨QF52, hu_QF52⟩ : ∃ y : Nat → Nat → Int32, y = va_up QF p0.toNatClampNeg qf31 := ⟨_, rfl⟩
        obtain ⟨QA53, hu_QA53⟩ : ∃ y : Nat → Nat → Nat → Int32, y = va_up QA p0.toNatClampNeg qa32 := ⟨_, rfl⟩
        have hw : pw D A s.heap _ _ [wd_Mo cs mo mr (fun _ => none) (upd mf 9 0) md (gMo PG hq), fm 8 (fPg cs PG), fm 13 (fPr cs hq qr QO51 QF52 QA53)] := (by rw [hu_QO51, hu_QF52, hu_QA53]; exact hw)
        have hpx : PrX PG RR QO51 QF52 QA53 p0.toNatClampNeg := (by rw [hu_QO51, hu_QF52, hu_QA53]; exact PrX.up (hpr.px hi1) (show (0 ≤ (qf31 1).toInt ∧ (qf31 1).toInt ≤ 1) ∧ (0 ≤ (qf31 21).toInt ∧ (qf31 21).toInt ≤ 4) ∧ (0 ≤ (qf31 23).toInt ∧ (qf31 23).toInt ≤ 4) ∧ (0 ≤ (qf31 24).toInt ∧ (qf31 24).toInt ≤ 1000000) ∧ (0 ≤ (qf31 6).toInt ∧ (qf31 6).toInt ≤ 3) ∧ (0 ≤ (qf31 7).toInt ∧ (qf31 7).toInt ≤ 1) from by omega) (show (qf31 1).toInt = (QF p0.toNatClampNeg 1).toInt from by first | exact oz_1687f4cc65 e13 e36 | omega) (show (QF p0.toNatClampNeg 6).toInt ≤ (qf31 6).toInt from by first | exact oz_d01699e821 e16 e41 | omega))
        have hpd : PdT (PG j9) (RR p0.toNatClampNeg) (QF52 p0.toNatClampNeg) (QA53 p0.toNatClampNeg) := (by rw [hu_QF52, hu_QA53, va_up_s, va_up_s]; exact PoT.ans hpo (show (qf31 4).toInt = (QF p0.toNatClampNeg 4).toInt ∧ (qf31 5).toInt = (QF p0.toNatClampNeg 5).toInt ∧ (qf31 11).toInt = (QF p0.toNatClampNeg 11).toInt ∧ (qf31 12).toInt = (QF p0.toNatClampNeg 12).toInt ∧ (qf31 13).toInt = (QF p0.toNatClampNeg 13).toInt ∧ (qf31 14).toInt = (QF p0.toNatClampNeg 14).toInt from by first | exact oz_e3309c85a3 e14 e39 e15 e40 e19 e43 e20 e44 e21 e45 e22 e46 | omega) (show (qf31 10).toInt = (QF p0.toNatClampNeg 10).toInt - ((oslots p1.toInt).length : Int) + 1 from by omega) (show (qf31 24).toInt = (QF p0.toNatClampNeg 24).toInt ∨ (p1.toInt = 1 ∧ (qf31 24).toInt = (QF p0.toNatClampNeg 24).toInt + 1) from by omega) (fun i9 q9 => absurd (by rw [hkp.2.2 8 (by decide) (by decide)]) q9) (fun k9 a9 b9 c9 d9 => hkp.2.2 k9 b9 c9) (show NuU _ _ 9 ((QF p0.toNatClampNeg 10).toInt - ((oslots p1.toInt).length : Int)) _ from (by have q8 := e50; rw [show (z28.toInt) = (QF p0.toNatClampNeg 10).toInt - ((oslots p1.toInt).length : Int) by omega] at q8; exact q8)))
        have hko : KpO QO QF QO51 QF52 p0.toNatClampNeg := (by rw [hu_QO51, hu_QF52]; refine ⟨by rw [va_up_s]; first | done | exact hkp.1, ?_⟩; rw [va_up_s]; exact (show (qf31 1).toInt = (QF p0.toNatClampNeg 1).toInt ∧ (qf31 7).toInt = (QF p0.toNatClampNeg 7).toInt ∧ (qf31 11).toInt = (QF p0.toNatClampNeg 11).toInt from by first | exact oz_c24f474a2b e13 e36 e17 e42 e19 e43 | omega))
        have hw : pw D A s.heap _ _ [wd_Mo cs mo mr (fun _ => none) (upd mf 9 0) md (gMo PG hq), fm 13 (fPr cs hq qr QO51 QF52 QA53), fm 8 (fPg cs PG)] := hw.sub [0, 2, 1] rfl rfl
        exact px_iret (v := 1) S hr rfl hlk hAe hw (Nat.le_of_ble_eq_true rfl) (Nat.le_of_ble_eq_true rfl) (⟨(upd mf 9 0), md, QO51, QF52, QA53, rfl, (show 0 ≤ (1 : Int) from by first | exact oz_19c3a41681 | omega), (show (1 : Int) ≤ 1 from by first | exact oz_f9181dc4bb | omega), (show OwQ (1 : Int) (PrA PG RR QO51 QF52 QA53) (PrX PG RR QO51 QF52 QA53 p0.toNatClampNeg ∧ PdT (PG j9) (RR p0.toNatClampNeg) (QF52 p0.toNatClampNeg) (QA53 p0.toNatClampNeg)) from (Or.inr ⟨by omega, hpx, hpd⟩)), (show KpO QO QF QO51 QF52 p0.toNatClampNeg from hko), (show (mf 0).toInt = (mf 0).toInt from rfl), (show (mf 2).toInt = (mf 2).toInt from rfl), (show (mf 3).toInt = (mf 3).toInt from rfl), (show (mf 7).toInt = (mf 7).toInt from rfl), (show (mf 8).toInt = (mf 8).toInt from rfl), (show (mf 10).toInt = (mf 10).toInt from rfl), (show Md1 md md from hmdq)⟩) d_Mo_ownCall_267
    · refine List.forall_mem_cons.mpr ⟨fun c54 => ?_, List.forall_mem_cons.mpr ⟨fun c54 => ?_, List.forall_mem_cons.mpr ⟨fun c54 => ?_, List.forall_mem_cons.mpr ⟨fun c54 => ?_, List.forall_mem_cons.mpr ⟨fun c54 => ?_, List.forall_mem_cons.mpr ⟨fun c54 => ?_, List.forall_mem_cons.mpr ⟨fun c54 => ?_, List.forall_mem_cons.mpr ⟨fun c54 => ?_, fun _ h => absurd h List.not_mem_nil⟩⟩⟩⟩⟩⟩⟩⟩
      · simp only [List.mem_cons, List.not_mem_nil, or_false] at c54
        refine lv_aload_n S.x S.b d_Mo_ownCall_108 rfl (lv_at hl 5 rfl) ?_
        refine lv_iload S.x S.b d_Mo_ownCall_109 (lv_at hl 3 rfl) ?_
        refine px_put S k_Mo hT hw 0 0 9 rfl rfl (by decide) m11_87 rfl rfl rfl (Nat.le_of_ble_eq_true rfl) d_Mo_ownCall_111 (w' := wd_Mo cs mo mr (fun _ => none) (upd mf 9 z4) md (gMo PG hq)) (ps' := [wd_Mo cs mo mr (fun _ => none) (upd mf 9 z4) md (gMo PG hq), fm 8 (fPg cs PG), fo 13 (fPr cs hq qr QO QF QA) p0.toNatClampNeg, wd_Mpr cs (hq p0.toNatClampNeg) (qr p0.toNatClampNeg) (fun _ => QO p0.toNatClampNeg) (QF p0.toNatClampNeg) (QA p0.toNatClampNeg) (fun _ _ => none)]) rfl rfl (fun H locs hw => ?_)
        refine lv_iconst (v := 2) S.x S.b d_Mo_ownCall_114 (by decide) ?_
        refine lv_istore (lv' := [(7, .int 2), (6, .int 1), (5, .int 0), (4, .int z4), (3, .ref (hq p0.toNatClampNeg)), (0, .ref mo), (1, .int p0), (2, .int p1)]) S.x S.b d_Mo_ownCall_115 hl (by decide) rfl (fun ls hl => ?_)
        refine lv_goto (tgt := 241) S.x S.b d_Mo_ownCall_117 (by decide) ?_
        refine lv_iload S.x S.b d_Mo_ownCall_241 (lv_at hl 1 rfl) ?_
        refine lv_if_eq (tgt := 265) S.x S.b d_Mo_ownCall_243 (by decide) (fun c55 => ?_) (fun c55 => ?_)
        · exact absurd c55 (by decide)
        ·
          refine lv_aload_n S.x S.b d_Mo_ownCall_246 rfl (lv_at hl 4 rfl) ?_
          have hkf := hkp.2.1; unfold KpF at hkf
          refine lv_aload_n S.x S.b d_Mo_ownCall_247 rfl (lv_at hl 4 rfl) ?_
          refine px_get S k_Mpr hT hw 3 0 10 (v := .int ((QF p0.toNatClampNeg) 10)) rfl rfl rfl (by decide) m11_1 d_Mo_ownCall_248 ?_
          refine lv_iload S.x S.b d_Mo_ownCall_251 (lv_at hl 0 rfl) ?_
          refine lv_isub S.x S.b d_Mo_ownCall_253 ?_
          have lr56 := Int32.le_toInt ((QF p0.toNatClampNeg) 10)
          have ur56 := Int32.toInt_lt ((QF p0.toNatClampNeg) 10)
          refine lv_topi (fun z57 ez57 => ?_)
          have tz57 : z57.toInt = (((QF p0.toNatClampNeg) 10).toInt - (2 : Int) + 2147483648) % 4294967296 - 2147483648 := by rw [ez57]; exact i_sub ((QF p0.toNatClampNeg) 10) 2
          have lz57 := Int32.le_toInt z57
          have uz57 := Int32.toInt_lt z57
          try replace tz57 : z57.toInt = ((QF p0.toNatClampNeg) 10).toInt - (2 : Int) := by omega
          refine px_put S k_Mpr hT hw 3 0 10 rfl rfl (by decide) m11_1 rfl rfl rfl (Nat.le_of_ble_eq_true rfl) d_Mo_ownCall_254 (w' := wd_Mpr cs (hq p0.toNatClampNeg) (qr p0.toNatClampNeg) (fun _ => QO p0.toNatClampNeg) (upd (QF p0.toNatClampNeg) 10 z57) (QA p0.toNatClampNeg) (fun _ _ => none)) (ps' := [wd_Mo cs mo mr (fun _ => none) (upd mf 9 z4) md (gMo PG hq), fm 8 (fPg cs PG), fo 13 (fPr cs hq qr QO QF QA) p0.toNatClampNeg, wd_Mpr cs (hq p0.toNatClampNeg) (qr p0.toNatClampNeg) (fun _ => QO p0.toNatClampNeg) (upd (QF p0.toNatClampNeg) 10 z57) (QA p0.toNatClampNeg) (fun _ _ => none)]) rfl rfl (fun H locs hw => ?_)
          refine lv_aload_n S.x S.b d_Mo_ownCall_257 rfl (lv_at hl 4 rfl) ?_
          refine lv_aload_n S.x S.b d_Mo_ownCall_258 rfl (lv_at hl 5 rfl) ?_
          refine px_get S k_Mo hT hw 0 0 9 (v := .int z4) rfl rfl rfl (by decide) m11_87 d_Mo_ownCall_259 ?_
          refine px_callv (pr := [wd_Mo cs mo mr (fun _ => none) (upd mf 9 z4) md (gMo PG hq), fm 8 (fPg cs PG), fo 13 (fPr cs hq qr QO QF QA) p0.toNatClampNeg]) (px_runV (As := [.int z4]) (rest := []) S (c_mq_give l D cs (hq p0.toNatClampNeg) (qr p0.toNatClampNeg) (fun _ _ => none) (fun _ => QO p0.toNatClampNeg) (upd (QF p0.toNatClampNeg) 10 z57) (QA p0.toNatClampNeg) z4  (show 0 ≤ z57.toInt from by omega) (show z57.toInt < 62500 from by first | exact oz_2c9f9036ba tz57 nc5 | omega) _) hT (pr := [wd_Mo cs mo mr (fun _ => none) (upd mf 9 z4) md (gMo PG hq), fm 8 (fPg cs PG), fo 13 (fPr cs hq qr QO QF QA) p0.toNatClampNeg]) (pcs := [wd_Mpr cs (hq p0.toNatClampNeg) (qr p0.toNatClampNeg) (fun _ => QO p0.toNatClampNeg) (upd (QF p0.toNatClampNeg) 10 z57) (QA p0.toNatClampNeg) (fun _ _ => none)]) hw px_X.tt (px_recv hT hw 3 0 rfl rfl rfl) m13_161 m14_111 m13_159 m13_160 m1_22 q_Mpr_give ⟨Nat.le_of_ble_eq_true rfl, Nat.le_of_ble_eq_true rfl⟩ hl.1 rfl (Nat.le_of_ble_eq_true rfl) d_Mo_ownCall_262 ⟨Nat.le_of_ble_eq_true rfl, Nat.le_of_ble_eq_true rfl⟩) hw hA (fun p62 H locs hp62 hw => ?_)
          obtain ⟨qf60, qa61, rfl, e64, e65, e66, e67, e68, e69, e70, e71, e72, e73, e74, e75, e76, e77, e78, e79⟩ := hp62
          have e64 : (qf60 10).toInt = z57.toInt + 1 := e64
          have e65 : (qf60 1).toInt = ((QF p0.toNatClampNeg) 1).toInt := e65
          have e66 : (qf60 2).toInt = ((QF p0.toNatClampNeg) 2).toInt := e66
          have e67 : (qf60 3).toInt = ((QF p0.toNatClampNeg) 3).toInt := e67
          have e68 : (qf60 4).toInt = ((QF p0.toNatClampNeg) 4).toInt := e68
          have e69 : (qf60 5).toInt = ((QF p0.toNatClampNeg) 5).toInt := e69
          have e70 : (qf60 6).toInt = ((QF p0.toNatClampNeg) 6).toInt := e70
          have e71 : (qf60 7).toInt = ((QF p0.toNatClampNeg) 7).toInt := e71
          have e72 : (qf60 11).toInt = ((QF p0.toNatClampNeg) 11).toInt := e72
          have e73 : (qf60 12).toInt = ((QF p0.toNatClampNeg) 12).toInt := e73
          have e74 : (qf60 13).toInt = ((QF p0.toNatClampNeg) 13).toInt := e74
          have e75 : (qf60 14).toInt = ((QF p0.toNatClampNeg) 14).toInt := e75
          have e76 : (qf60 21).toInt = ((QF p0.toNatClampNeg) 21).toInt := e76
          have e77 : (qf60 23).toInt = ((QF p0.toNatClampNeg) 23).toInt := e77
          have e78 : (qf60 24).toInt = ((QF p0.toNatClampNeg) 24).toInt := e78
          have e79 : NuU (QA p0.toNatClampNeg) qa61 9 z57.toInt z4 := e79
          skip
          have hw : pw D A s.heap H locs [wd_Mo cs mo mr (fun _ => none) (upd mf 9 z4) md (gMo PG hq), fm 8 (fPg cs PG), fo 13 (fPr cs hq qr QO QF QA) p0.toNatClampNeg, wd_Mpr cs (hq p0.toNatClampNeg) (qr p0.toNatClampNeg) (fun _ => QO p0.toNatClampNeg) qf60 qa61 (fun _ _ => none)] := hw
          refine lv_iload S.x S.b d_Mo_ownCall_265 (lv_at hl 1 rfl) ?_
          have hw := fpr_in (pr := [wd_Mo cs mo mr (fun _ => none) (upd mf 9 z4) md (gMo PG hq), fm 8 (fPg cs PG)]) hw hi1
          obtain ⟨QO80, hu_QO80⟩ : ∃ y : Nat → Option Nat, y = va_up QO p0.toNatClampNeg ((fun _ => QO p0.toNatClampNeg) 0) := ⟨_, rfl⟩
          obtain ⟨QF81, hu_QF81⟩ : ∃ y : Nat → Nat → Int32, y = va_up QF p0.toNatClampNeg qf60 := ⟨_, rfl⟩
          obtain ⟨QA82, hu_QA82⟩ : ∃ y : Nat → Nat → Nat → Int32, y = va_up QA p0.toNatClampNeg qa61 := ⟨_, rfl⟩
          have hw : pw D A s.heap _ _ [wd_Mo cs mo mr (fun _ => none) (upd mf 9 z4) md (gMo PG hq), fm 8 (fPg cs PG), fm 13 (fPr cs hq qr QO80 QF81 QA82)] := (by rw [hu_QO80, hu_QF81, hu_QA82]; exact hw)
          have hpx : PrX PG RR QO80 QF81 QA82 p0.toNatClampNeg := (by rw [hu_QO80, hu_QF81, hu_QA82]; exact PrX.up (hpr.px hi1) (show (0 ≤ (qf60 1).toInt ∧ (qf60 1).toInt ≤ 1) ∧ (0 ≤ (qf60 21).toInt ∧ (qf60 21).toInt ≤ 4) ∧ (0 ≤ (qf60 23).toInt ∧ (qf60 23).toInt ≤ 4) ∧ (0 ≤ (qf60 24).toInt ∧ (qf60 24).toInt ≤ 1000000) ∧ (0 ≤ (qf60 6).toInt ∧ (qf60 6).toInt ≤ 3) ∧ (0 ≤ (qf60 7).toInt ∧ (qf60 7).toInt ≤ 1) from by omega) (show (qf60 1).toInt = (QF p0.toNatClampNeg 1).toInt from by first | exact oz_1811ac7fe4 e65 | omega) (show (QF p0.toNatClampNeg 6).toInt ≤ (qf60 6).toInt from by first | exact oz_f9b42d1b56 e70 | omega))
          have hpd : PdT (PG j9) (RR p0.toNatClampNeg) (QF81 p0.toNatClampNeg) (QA82 p0.toNatClampNeg) := (by rw [hu_QF81, hu_QA82, va_up_s, va_up_s]; exact PoT.ans hpo (show (qf60 4).toInt = (QF p0.toNatClampNeg 4).toInt ∧ (qf60 5).toInt = (QF p0.toNatClampNeg 5).toInt ∧ (qf60 11).toInt = (QF p0.toNatClampNeg 11).toInt ∧ (qf60 12).toInt = (QF p0.toNatClampNeg 12).toInt ∧ (qf60 13).toInt = (QF p0.toNatClampNeg 13).toInt ∧ (qf60 14).toInt = (QF p0.toNatClampNeg 14).toInt from by first | exact oz_82ab602a70 e68 e69 e72 e73 e74 e75 | omega) (show (qf60 10).toInt = (QF p0.toNatClampNeg 10).toInt - ((oslots p1.toInt).length : Int) + 1 from by omega) (show (qf60 24).toInt = (QF p0.toNatClampNeg 24).toInt ∨ (p1.toInt = 1 ∧ (qf60 24).toInt = (QF p0.toNatClampNeg 24).toInt + 1) from by omega) (fun i9 q9 => absurd (by rw [hkp.2.2 8 (by decide) (by decide)]) q9) (fun k9 a9 b9 c9 d9 => hkp.2.2 k9 b9 c9) (show NuU _ _ 9 ((QF p0.toNatClampNeg 10).toInt - ((oslots p1.toInt).length : Int)) _ from (by have q8 := e79; rw [show (z57.toInt) = (QF p0.toNatClampNeg 10).toInt - ((oslots p1.toInt).length : Int) by omega] at q8; exact q8)))
          have hko : KpO QO QF QO80 QF81 p0.toNatClampNeg := (by rw [hu_QO80, hu_QF81]; refine ⟨by rw [va_up_s]; first | done | exact hkp.1, ?_⟩; rw [va_up_s]; exact (show (qf60 1).toInt = (QF p0.toNatClampNeg 1).toInt ∧ (qf60 7).toInt = (QF p0.toNatClampNeg 7).toInt ∧ (qf60 11).toInt = (QF p0.toNatClampNeg 11).toInt from by first | exact oz_ca5abb16c6 e65 e71 e72 | omega))
          have hw : pw D A s.heap _ _ [wd_Mo cs mo mr (fun _ => none) (upd mf 9 z4) md (gMo PG hq), fm 13 (fPr cs hq qr QO80 QF81 QA82), fm 8 (fPg cs PG)] := hw.sub [0, 2, 1] rfl rfl
          exact px_iret (v := 1) S hr rfl hlk hAe hw (Nat.le_of_ble_eq_true rfl) (Nat.le_of_ble_eq_true rfl) (⟨(upd mf 9 z4), md, QO80, QF81, QA82, rfl, (show 0 ≤ (1 : Int) from by first | exact oz_19c3a41681 | omega), (show (1 : Int) ≤ 1 from by first | exact oz_f9181dc4bb | omega), (show OwQ (1 : Int) (PrA PG RR QO80 QF81 QA82) (PrX PG RR QO80 QF81 QA82 p0.toNatClampNeg ∧ PdT (PG j9) (RR p0.toNatClampNeg) (QF81 p0.toNatClampNeg) (QA82 p0.toNatClampNeg)) from (Or.inr ⟨by omega, hpx, hpd⟩)), (show KpO QO QF QO80 QF81 p0.toNatClampNeg from hko), (show (mf 0).toInt = (mf 0).toInt from rfl), (show (mf 2).toInt = (mf 2).toInt from rfl), (show (mf 3).toInt = (mf 3).toInt from rfl), (show (mf 7).toInt = (mf 7).toInt from rfl), (show (mf 8).toInt = (mf 8).toInt from rfl), (show (mf 10).toInt = (mf 10).toInt from rfl), (show Md1 md md from hmdq)⟩) d_Mo_ownCall_267
      · simp only [List.mem_cons, List.not_mem_nil, or_false] at c54
        refine lv_aload_n S.x S.b d_Mo_ownCall_120 rfl (lv_at hl 4 rfl) ?_
        refine lv_iload S.x S.b d_Mo_ownCall_121 (lv_at hl 3 rfl) ?_
        refine px_callv (pr := [wd_Mo cs mo mr (fun _ => none) (upd mf 9 0) md (gMo PG hq), fm 8 (fPg cs PG), fo 13 (fPr cs hq qr QO QF QA) p0.toNatClampNeg]) (px_runV (As := [.int z4]) (rest := []) S (c_mq_write l D cs (hq p0.toNatClampNeg) (qr p0.toNatClampNeg) (fun _ _ => none) (fun _ => QO p0.toNatClampNeg) (QF p0.toNatClampNeg) (QA p0.toNatClampNeg) z4  (show 0 ≤ ((QF p0.toNatClampNeg) 24).toInt from by omega) (show ((QF p0.toNatClampNeg) 24).toInt ≤ 1000000 from by first | exact oz_9812ba30bf hpn.2.2.2.2.2.2 hpn.2.2.2.2.1 | omega) _) hT (pr := [wd_Mo cs mo mr (fun _ => none) (upd mf 9 0) md (gMo PG hq), fm 8 (fPg cs PG), fo 13 (fPr cs hq qr QO QF QA) p0.toNatClampNeg]) (pcs := [wd_Mpr cs (hq p0.toNatClampNeg) (qr p0.toNatClampNeg) (fun _ => QO p0.toNatClampNeg) (QF p0.toNatClampNeg) (QA p0.toNatClampNeg) (fun _ _ => none)]) hw px_X.tt (px_recv hT hw 3 0 rfl rfl rfl) m14_39 m14_36 m14_37 m14_38 m1_22 q_Mpr_write ⟨Nat.le_of_ble_eq_true rfl, Nat.le_of_ble_eq_true rfl⟩ hl.1 rfl (Nat.le_of_ble_eq_true rfl) d_Mo_ownCall_123 ⟨Nat.le_of_ble_eq_true rfl, Nat.le_of_ble_eq_true rfl⟩) hw hA (fun p87 H locs hp87 hw => ?_)
        obtain ⟨qf85, qa86, rfl, e89, e90, e91, e92, e93, e94, e95, e96, e97, e98, e99, e100, e101, e102, e103, e104⟩ := hp87
        have e89 : (qf85 24).toInt = ((QF p0.toNatClampNeg) 24).toInt + 1 := e89
        have e90 : (qf85 1).toInt = ((QF p0.toNatClampNeg) 1).toInt := e90
        have e91 : (qf85 2).toInt = ((QF p0.toNatClampNeg) 2).toInt := e91
        have e92 : (qf85 3).toInt = ((QF p0.toNatClampNeg) 3).toInt := e92
        have e93 : (qf85 4).toInt = ((QF p0.toNatClampNeg) 4).toInt := e93
        have e94 : (qf85 5).toInt = ((QF p0.toNatClampNeg) 5).toInt := e94
        have e95 : (qf85 6).toInt = ((QF p0.toNatClampNeg) 6).toInt := e95
        have e96 : (qf85 7).toInt = ((QF p0.toNatClampNeg) 7).toInt := e96
        have e97 : (qf85 10).toInt = ((QF p0.toNatClampNeg) 10).toInt := e97
        have e98 : (qf85 11).toInt = ((QF p0.toNatClampNeg) 11).toInt := e98
        have e99 : (qf85 12).toInt = ((QF p0.toNatClampNeg) 12).toInt := e99
        have e100 : (qf85 13).toInt = ((QF p0.toNatClampNeg) 13).toInt := e100
        have e101 : (qf85 14).toInt = ((QF p0.toNatClampNeg) 14).toInt := e101
        have e102 : (qf85 21).toInt = ((QF p0.toNatClampNeg) 21).toInt := e102
        have e103 : (qf85 23).toInt = ((QF p0.toNatClampNeg) 23).toInt := e103
        have e104 : ∀ k9 : Nat, k9 ≠ 25 → qa86 k9 = (QA p0.toNatClampNeg) k9 := e104
        have haw := e104
        have hw : pw D A s.heap H locs [wd_Mo cs mo mr (fun _ => none) (upd mf 9 0) md (gMo PG hq), fm 8 (fPg cs PG), fo 13 (fPr cs hq qr QO QF QA) p0.toNatClampNeg, wd_Mpr cs (hq p0.toNatClampNeg) (qr p0.toNatClampNeg) (fun _ => QO p0.toNatClampNeg) qf85 qa86 (fun _ _ => none)] := hw
        refine lv_goto (tgt := 241) S.x S.b d_Mo_ownCall_126 (by decide) ?_
        refine lv_iload S.x S.b d_Mo_ownCall_241 (lv_at hl 1 rfl) ?_
        refine lv_if_eq (tgt := 265) S.x S.b d_Mo_ownCall_243 (by decide) (fun c105 => ?_) (fun c105 => ?_)
        · exact absurd c105 (by decide)
        ·
          refine lv_aload_n S.x S.b d_Mo_ownCall_246 rfl (lv_at hl 4 rfl) ?_
          have hkf := hkp.2.1; unfold KpF at hkf
          refine lv_aload_n S.x S.b d_Mo_ownCall_247 rfl (lv_at hl 4 rfl) ?_
          refine px_get S k_Mpr hT hw 3 0 10 (v := .int (qf85 10)) rfl rfl rfl (by decide) m11_1 d_Mo_ownCall_248 ?_
          refine lv_iload S.x S.b d_Mo_ownCall_251 (lv_at hl 0 rfl) ?_
          refine lv_isub S.x S.b d_Mo_ownCall_253 ?_
          have lr106 := Int32.le_toInt (qf85 10)
          have ur106 := Int32.toInt_lt (qf85 10)
          refine lv_topi (fun z107 ez107 => ?_)
          have tz107 : z107.toInt = ((qf85 10).toInt - (1 : Int) + 2147483648) % 4294967296 - 2147483648 := by rw [ez107]; exact i_sub (qf85 10) 1
          have lz107 := Int32.le_toInt z107
          have uz107 := Int32.toInt_lt z107
          try replace tz107 : z107.toInt = (qf85 10).toInt - (1 : Int) := by omega
          refine px_put S k_Mpr hT hw 3 0 10 rfl rfl (by decide) m11_1 rfl rfl rfl (Nat.le_of_ble_eq_true rfl) d_Mo_ownCall_254 (w' := wd_Mpr cs (hq p0.toNatClampNeg) (qr p0.toNatClampNeg) (fun _ => QO p0.toNatClampNeg) (upd qf85 10 z107) qa86 (fun _ _ => none)) (ps' := [wd_Mo cs mo mr (fun _ => none) (upd mf 9 0) md (gMo PG hq), fm 8 (fPg cs PG), fo 13 (fPr cs hq qr QO QF QA) p0.toNatClampNeg, wd_Mpr cs (hq p0.toNatClampNeg) (qr p0.toNatClampNeg) (fun _ => QO p0.toNatClampNeg) (upd qf85 10 z107) qa86 (fun _ _ => none)]) rfl rfl (fun H locs hw => ?_)
          refine lv_aload_n S.x S.b d_Mo_ownCall_257 rfl (lv_at hl 4 rfl) ?_
          refine lv_aload_n S.x S.b d_Mo_ownCall_258 rfl (lv_at hl 5 rfl) ?_
          refine px_get S k_Mo hT hw 0 0 9 (v := .int 0) rfl rfl rfl (by decide) m11_87 d_Mo_ownCall_259 ?_
          refine px_callv (pr := [wd_Mo cs mo mr (fun _ => none) (upd mf 9 0) md (gMo PG hq), fm 8 (fPg cs PG), fo 13 (fPr cs hq qr QO QF QA) p0.toNatClampNeg]) (px_runV (As := [.int 0]) (rest := []) S (c_mq_give l D cs (hq p0.toNatClampNeg) (qr p0.toNatClampNeg) (fun _ _ => none) (fun _ => QO p0.toNatClampNeg) (upd qf85 10 z107) qa86 0  (show 0 ≤ z107.toInt from by omega) (show z107.toInt < 62500 from by first | exact oz_2e4f4c116e tz107 e97 nc5 | omega) _) hT (pr := [wd_Mo cs mo mr (fun _ => none) (upd mf 9 0) md (gMo PG hq), fm 8 (fPg cs PG), fo 13 (fPr cs hq qr QO QF QA) p0.toNatClampNeg]) (pcs := [wd_Mpr cs (hq p0.toNatClampNeg) (qr p0.toNatClampNeg) (fun _ => QO p0.toNatClampNeg) (upd qf85 10 z107) qa86 (fun _ _ => none)]) hw px_X.tt (px_recv hT hw 3 0 rfl rfl rfl) m13_161 m14_111 m13_159 m13_160 m1_22 q_Mpr_give ⟨Nat.le_of_ble_eq_true rfl, Nat.le_of_ble_eq_true rfl⟩ hl.1 rfl (Nat.le_of_ble_eq_true rfl) d_Mo_ownCall_262 ⟨Nat.le_of_ble_eq_true rfl, Nat.le_of_ble_eq_true rfl⟩) hw hA (fun p112 H locs hp112 hw => ?_)
          obtain ⟨qf110, qa111, rfl, e114, e115, e116, e117, e118, e119, e120, e121, e122, e123, e124, e125, e126, e127, e128, e129⟩ := hp112
          have e114 : (qf110 10).toInt = z107.toInt + 1 := e114
          have e115 : (qf110 1).toInt = (qf85 1).toInt := e115
          have e116 : (qf110 2).toInt = (qf85 2).toInt := e116
          have e117 : (qf110 3).toInt = (qf85 3).toInt := e117
          have e118 : (qf110 4).toInt = (qf85 4).toInt := e118
          have e119 : (qf110 5).toInt = (qf85 5).toInt := e119
          have e120 : (qf110 6).toInt = (qf85 6).toInt := e120
          have e121 : (qf110 7).toInt = (qf85 7).toInt := e121
          have e122 : (qf110 11).toInt = (qf85 11).toInt := e122
          have e123 : (qf110 12).toInt = (qf85 12).toInt := e123
          have e124 : (qf110 13).toInt = (qf85 13).toInt := e124
          have e125 : (qf110 14).toInt = (qf85 14).toInt := e125
          have e126 : (qf110 21).toInt = (qf85 21).toInt := e126
          have e127 : (qf110 23).toInt = (qf85 23).toInt := e127
          have e128 : (qf110 24).toInt = (qf85 24).toInt := e128
          have e129 : NuU qa86 qa111 9 z107.toInt (0 : Int32) := e129
          skip
          have hw : pw D A s.heap H locs [wd_Mo cs mo mr (fun _ => none) (upd mf 9 0) md (gMo PG hq), fm 8 (fPg cs PG), fo 13 (fPr cs hq qr QO QF QA) p0.toNatClampNeg, wd_Mpr cs (hq p0.toNatClampNeg) (qr p0.toNatClampNeg) (fun _ => QO p0.toNatClampNeg) qf110 qa111 (fun _ _ => none)] := hw
          refine lv_iload S.x S.b d_Mo_ownCall_265 (lv_at hl 1 rfl) ?_
          have hw := fpr_in (pr := [wd_Mo cs mo mr (fun _ => none) (upd mf 9 0) md (gMo PG hq), fm 8 (fPg cs PG)]) hw hi1
          obtain ⟨QO130, hu_QO130⟩ : ∃ y : Nat → Option Nat, y = va_up QO p0.toNatClampNeg ((fun _ => QO p0.toNatClampNeg) 0) := ⟨_, rfl⟩
          obtain ⟨QF131, hu_QF131⟩ : ∃ y : Nat → Nat → Int32, y = va_up QF p0.toNatClampNeg qf110 := ⟨_, rfl⟩
          obtain ⟨QA132, hu_QA132⟩ : ∃ y : Nat → Nat → Nat → Int32, y = va_up QA p0.toNatClampNeg qa111 := ⟨_, rfl⟩
          have hw : pw D A s.heap _ _ [wd_Mo cs mo mr (fun _ => none) (upd mf 9 0) md (gMo PG hq), fm 8 (fPg cs PG), fm 13 (fPr cs hq qr QO130 QF131 QA132)] := (by rw [hu_QO130, hu_QF131, hu_QA132]; exact hw)
          have hpx : PrX PG RR QO130 QF131 QA132 p0.toNatClampNeg := (by rw [hu_QO130, hu_QF131, hu_QA132]; exact PrX.up (hpr.px hi1) (show (0 ≤ (qf110 1).toInt ∧ (qf110 1).toInt ≤ 1) ∧ (0 ≤ (qf110 21).toInt ∧ (qf110 21).toInt ≤ 4) ∧ (0 ≤ (qf110 23).toInt ∧ (qf110 23).toInt ≤ 4) ∧ (0 ≤ (qf110 24).toInt ∧ (qf110 24).toInt ≤ 1000000) ∧ (0 ≤ (qf110 6).toInt ∧ (qf110 6).toInt ≤ 3) ∧ (0 ≤ (qf110 7).toInt ∧ (qf110 7).toInt ≤ 1) from by omega) (show (qf110 1).toInt = (QF p0.toNatClampNeg 1).toInt from by first | exact oz_1687f4cc65 e90 e115 | omega) (show (QF p0.toNatClampNeg 6).toInt ≤ (qf110 6).toInt from by first | exact oz_d01699e821 e95 e120 | omega))
          have hpd : PdT (PG j9) (RR p0.toNatClampNeg) (QF131 p0.toNatClampNeg) (QA132 p0.toNatClampNeg) := (by rw [hu_QF131, hu_QA132, va_up_s, va_up_s]; exact PoT.ans hpo (show (qf110 4).toInt = (QF p0.toNatClampNeg 4).toInt ∧ (qf110 5).toInt = (QF p0.toNatClampNeg 5).toInt ∧ (qf110 11).toInt = (QF p0.toNatClampNeg 11).toInt ∧ (qf110 12).toInt = (QF p0.toNatClampNeg 12).toInt ∧ (qf110 13).toInt = (QF p0.toNatClampNeg 13).toInt ∧ (qf110 14).toInt = (QF p0.toNatClampNeg 14).toInt from by first | exact oz_e3309c85a3 e93 e118 e94 e119 e98 e122 e99 e123 e100 e124 e101 e125 | omega) (show (qf110 10).toInt = (QF p0.toNatClampNeg 10).toInt - ((oslots p1.toInt).length : Int) + 1 from by omega) (show (qf110 24).toInt = (QF p0.toNatClampNeg 24).toInt ∨ (p1.toInt = 1 ∧ (qf110 24).toInt = (QF p0.toNatClampNeg 24).toInt + 1) from by omega) (fun i9 q9 => absurd (congrFun (haw 8 (by decide)) i9) q9) (fun k9 a9 b9 c9 d9 => haw k9 d9) (show NuU _ _ 9 ((QF p0.toNatClampNeg 10).toInt - ((oslots p1.toInt).length : Int)) _ from (by have q8 := e129; rw [show (z107.toInt) = (QF p0.toNatClampNeg 10).toInt - ((oslots p1.toInt).length : Int) by omega] at q8; exact q8)))
          have hko : KpO QO QF QO130 QF131 p0.toNatClampNeg := (by rw [hu_QO130, hu_QF131]; refine ⟨by rw [va_up_s]; first | done | exact hkp.1, ?_⟩; rw [va_up_s]; exact (show (qf110 1).toInt = (QF p0.toNatClampNeg 1).toInt ∧ (qf110 7).toInt = (QF p0.toNatClampNeg 7).toInt ∧ (qf110 11).toInt = (QF p0.toNatClampNeg 11).toInt from by first | exact oz_c24f474a2b e90 e115 e96 e121 e98 e122 | omega))
          have hw : pw D A s.heap _ _ [wd_Mo cs mo mr (fun _ => none) (upd mf 9 0) md (gMo PG hq), fm 13 (fPr cs hq qr QO130 QF131 QA132), fm 8 (fPg cs PG)] := hw.sub [0, 2, 1] rfl rfl
          exact px_iret (v := 1) S hr rfl hlk hAe hw (Nat.le_of_ble_eq_true rfl) (Nat.le_of_ble_eq_true rfl) (⟨(upd mf 9 0), md, QO130, QF131, QA132, rfl, (show 0 ≤ (1 : Int) from by first | exact oz_19c3a41681 | omega), (show (1 : Int) ≤ 1 from by first | exact oz_f9181dc4bb | omega), (show OwQ (1 : Int) (PrA PG RR QO130 QF131 QA132) (PrX PG RR QO130 QF131 QA132 p0.toNatClampNeg ∧ PdT (PG j9) (RR p0.toNatClampNeg) (QF131 p0.toNatClampNeg) (QA132 p0.toNatClampNeg)) from (Or.inr ⟨by omega, hpx, hpd⟩)), (show KpO QO QF QO130 QF131 p0.toNatClampNeg from hko), (show (mf 0).toInt = (mf 0).toInt from rfl), (show (mf 2).toInt = (mf 2).toInt from rfl), (show (mf 3).toInt = (mf 3).toInt from rfl), (show (mf 7).toInt = (mf 7).toInt from rfl), (show (mf 8).toInt = (mf 8).toInt from rfl), (show (mf 10).toInt = (mf 10).toInt from rfl), (show Md1 md md from hmdq)⟩) d_Mo_ownCall_267
      · simp only [List.mem_cons, List.not_mem_nil, or_false] at c54
        refine lv_aload_n S.x S.b d_Mo_ownCall_129 rfl (lv_at hl 5 rfl) ?_
        refine lv_iload_n S.x S.b d_Mo_ownCall_130 rfl (lv_at hl 6 rfl) ?_
        refine lv_iload S.x S.b d_Mo_ownCall_131 (lv_at hl 2 rfl) ?_
        refine lv_iload S.x S.b d_Mo_ownCall_133 (lv_at hl 3 rfl) ?_
        have hw : pw D A s.heap _ _ [wd_Mo cs mo mr (fun _ => none) (upd mf 9 0) md (gMo PG hq), fm 8 (fPg cs PG), fm 13 (fPr cs hq qr QO QF QA)] := fm_back (pr := [wd_Mo cs mo mr (fun _ => none) (upd mf 9 0) md (gMo PG hq), fm 8 (fPg cs PG)]) (T := fPr cs hq qr QO QF QA) hw hi1
        have hw : pw D A s.heap _ _ [wd_Mo cs mo mr (fun _ => none) (upd mf 9 0) md (gMo PG hq), fm 13 (fPr cs hq qr QO QF QA), fm 8 (fPg cs PG)] := hw.sub [0, 2, 1] rfl rfl
        refine px_calli (pr := []) (px_runV (As := [.int p0, .int 0, .int z4]) (rest := []) S (c_mo_sends l D cs RR mo mr (upd mf 9 0) md hq qr QO QF QA PG p0 0 z4  (show 0 ≤ p0.toInt from by first | exact g0 | omega) (show p0.toInt < 13 from by first | exact g1 | omega) hpr hpg _) hT (pr := []) (pcs := [wd_Mo cs mo mr (fun _ => none) (upd mf 9 0) md (gMo PG hq), fm 13 (fPr cs hq qr QO QF QA), fm 8 (fPg cs PG)]) hw px_X.tt (px_recv hT hw 0 0 rfl rfl rfl) m14_43 m14_40 m14_42 ms_15_13 m1_20 q_Mo_sends ⟨Nat.le_of_ble_eq_true rfl, Nat.le_of_ble_eq_true rfl⟩ hl.1 rfl (Nat.le_of_ble_eq_true rfl) d_Mo_ownCall_135 ⟨Nat.le_of_ble_eq_true rfl, Nat.le_of_ble_eq_true rfl⟩) hw hA (fun v140 p139 H locs hp139 hw => ?_)
        obtain ⟨QO136, QF137, QA138, rfl, e141, e142, e143, e144⟩ := hp139
        have e141 : PrA PG RR QO136 QF137 QA138 := e141
        have hpr := e141
        have e142 : KpP QO QF QA QO136 QF137 QA138 p0.toNatClampNeg := e142
        have hkp := hkp.tr e142
        have e143 : 0 ≤ v140.toInt := e143
        have e144 : v140.toInt ≤ 1 := e144
        have hw : pw D A s.heap H locs [wd_Mo cs mo mr (fun _ => none) (upd mf 9 0) md (gMo PG hq), fm 13 (fPr cs hq qr QO136 QF137 QA138), fm 8 (fPg cs PG)] := hw
        have lv140 := Int32.le_toInt v140
        have uv140 := Int32.toInt_lt v140
        refine lv_istore (lv' := [(6, .int v140), (7, .int 1), (5, .int 0), (4, .int z4), (3, .ref (hq p0.toNatClampNeg)), (0, .ref mo), (1, .int p0), (2, .int p1)]) S.x S.b d_Mo_ownCall_138 hl (by decide) rfl (fun ls hl => ?_)
        refine lv_iconst (v := 2) S.x S.b d_Mo_ownCall_140 (by decide) ?_
        refine lv_istore (lv' := [(7, .int 2), (6, .int v140), (5, .int 0), (4, .int z4), (3, .ref (hq p0.toNatClampNeg)), (0, .ref mo), (1, .int p0), (2, .int p1)]) S.x S.b d_Mo_ownCall_141 hl (by decide) rfl (fun ls hl => ?_)
        refine lv_goto (tgt := 241) S.x S.b d_Mo_ownCall_143 (by decide) ?_
        refine lv_iload S.x S.b d_Mo_ownCall_241 (lv_at hl 1 rfl) ?_
        refine lv_if_eq (tgt := 265) S.x S.b d_Mo_ownCall_243 (by decide) (fun c145 => ?_) (fun c145 => ?_)
        · have nc145 : v140.toInt = (0 : Int) := (i_eq (x := v140) (y := 0)).mp c145
          refine lv_iload S.x S.b d_Mo_ownCall_265 (lv_at hl 1 rfl) ?_
          exact px_iret (v := v140) S hr (z_nar (by omega)) hlk hAe hw (Nat.le_of_ble_eq_true rfl) (Nat.le_of_ble_eq_true rfl) (⟨(upd mf 9 0), md, QO136, QF137, QA138, rfl, (show 0 ≤ v140.toInt from by first | exact e143 | omega), (show v140.toInt ≤ 1 from by first | exact e144 | omega), (show OwQ v140.toInt (PrA PG RR QO136 QF137 QA138) (PrX PG RR QO136 QF137 QA138 p0.toNatClampNeg ∧ PdT (PG j9) (RR p0.toNatClampNeg) (QF137 p0.toNatClampNeg) (QA138 p0.toNatClampNeg)) from (Or.inl ⟨by omega, hpr⟩)), (show KpO QO QF QO136 QF137 p0.toNatClampNeg from hkp.o), (show (mf 0).toInt = (mf 0).toInt from rfl), (show (mf 2).toInt = (mf 2).toInt from rfl), (show (mf 3).toInt = (mf 3).toInt from rfl), (show (mf 7).toInt = (mf 7).toInt from rfl), (show (mf 8).toInt = (mf 8).toInt from rfl), (show (mf 10).toInt = (mf 10).toInt from rfl), (show Md1 md md from hmdq)⟩) d_Mo_ownCall_267
        · have nc145 : ¬ v140.toInt = (0 : Int) := mt (i_eq (x := v140) (y := 0)).mpr c145
          refine lv_aload_n S.x S.b d_Mo_ownCall_246 rfl (lv_at hl 4 rfl) ?_
          have hkf := hkp.2.1; unfold KpF at hkf
          refine lv_aload_n S.x S.b d_Mo_ownCall_247 rfl (lv_at hl 4 rfl) ?_
          have hw : pw D A s.heap _ _ [wd_Mo cs mo mr (fun _ => none) (upd mf 9 0) md (gMo PG hq), fm 8 (fPg cs PG), fm 13 (fPr cs hq qr QO136 QF137 QA138)] := hw.sub [0, 2, 1] rfl rfl
          have hc147 := cl_nat (x := p0) (by first | exact g0 | omega)
          have hi147 : p0.toNatClampNeg < 13 := by first | exact hi1 | omega
          have hw : pw D A s.heap _ _ [wd_Mo cs mo mr (fun _ => none) (upd mf 9 0) md (gMo PG hq), fm 8 (fPg cs PG), fo 13 (fPr cs hq qr QO136 QF137 QA138) p0.toNatClampNeg, wd_Mpr cs (hq p0.toNatClampNeg) (qr p0.toNatClampNeg) (fun _ => QO136 p0.toNatClampNeg) (QF137 p0.toNatClampNeg) (QA138 p0.toNatClampNeg) (fun _ _ => none)] := fm_out (pr := [wd_Mo cs mo mr (fun _ => none) (upd mf 9 0) md (gMo PG hq), fm 8 (fPg cs PG)]) (T := fPr cs hq qr QO136 QF137 QA138) hw hi147
          have hps147 := hpr.1 p0.toNatClampNeg hi147
          have hpb147 := hps147.1
          unfold PsB at hpb147
          refine px_get S k_Mpr hT hw 3 0 10 (v := .int ((QF137 p0.toNatClampNeg) 10)) rfl rfl rfl (by decide) m11_1 d_Mo_ownCall_248 ?_
          refine lv_iload S.x S.b d_Mo_ownCall_251 (lv_at hl 0 rfl) ?_
          refine lv_isub S.x S.b d_Mo_ownCall_253 ?_
          have lr148 := Int32.le_toInt ((QF137 p0.toNatClampNeg) 10)
          have ur148 := Int32.toInt_lt ((QF137 p0.toNatClampNeg) 10)
          refine lv_topi (fun z149 ez149 => ?_)
          have tz149 : z149.toInt = (((QF137 p0.toNatClampNeg) 10).toInt - (2 : Int) + 2147483648) % 4294967296 - 2147483648 := by rw [ez149]; exact i_sub ((QF137 p0.toNatClampNeg) 10) 2
          have lz149 := Int32.le_toInt z149
          have uz149 := Int32.toInt_lt z149
          try replace tz149 : z149.toInt = ((QF137 p0.toNatClampNeg) 10).toInt - (2 : Int) := by omega
          refine px_put S k_Mpr hT hw 3 0 10 rfl rfl (by decide) m11_1 rfl rfl rfl (Nat.le_of_ble_eq_true rfl) d_Mo_ownCall_254 (w' := wd_Mpr cs (hq p0.toNatClampNeg) (qr p0.toNatClampNeg) (fun _ => QO136 p0.toNatClampNeg) (upd (QF137 p0.toNatClampNeg) 10 z149) (QA138 p0.toNatClampNeg) (fun _ _ => none)) (ps' := [wd_Mo cs mo mr (fun _ => none) (upd mf 9 0) md (gMo PG hq), fm 8 (fPg cs PG), fo 13 (fPr cs hq qr QO136 QF137 QA138) p0.toNatClampNeg, wd_Mpr cs (hq p0.toNatClampNeg) (qr p0.toNatClampNeg) (fun _ => QO136 p0.toNatClampNeg) (upd (QF137 p0.toNatClampNeg) 10 z149) (QA138 p0.toNatClampNeg) (fun _ _ => none)]) rfl rfl (fun H locs hw => ?_)
          refine lv_aload_n S.x S.b d_Mo_ownCall_257 rfl (lv_at hl 4 rfl) ?_
          refine lv_aload_n S.x S.b d_Mo_ownCall_258 rfl (lv_at hl 5 rfl) ?_
          refine px_get S k_Mo hT hw 0 0 9 (v := .int 0) rfl rfl rfl (by decide) m11_87 d_Mo_ownCall_259 ?_
          refine px_callv (pr := [wd_Mo cs mo mr (fun _ => none) (upd mf 9 0) md (gMo PG hq), fm 8 (fPg cs PG), fo 13 (fPr cs hq qr QO136 QF137 QA138) p0.toNatClampNeg]) (px_runV (As := [.int 0]) (rest := []) S (c_mq_give l D cs (hq p0.toNatClampNeg) (qr p0.toNatClampNeg) (fun _ _ => none) (fun _ => QO136 p0.toNatClampNeg) (upd (QF137 p0.toNatClampNeg) 10 z149) (QA138 p0.toNatClampNeg) 0  (show 0 ≤ z149.toInt from by omega) (show z149.toInt < 62500 from by omega) _) hT (pr := [wd_Mo cs mo mr (fun _ => none) (upd mf 9 0) md (gMo PG hq), fm 8 (fPg cs PG), fo 13 (fPr cs hq qr QO136 QF137 QA138) p0.toNatClampNeg]) (pcs := [wd_Mpr cs (hq p0.toNatClampNeg) (qr p0.toNatClampNeg) (fun _ => QO136 p0.toNatClampNeg) (upd (QF137 p0.toNatClampNeg) 10 z149) (QA138 p0.toNatClampNeg) (fun _ _ => none)]) hw px_X.tt (px_recv hT hw 3 0 rfl rfl rfl) m13_161 m14_111 m13_159 m13_160 m1_22 q_Mpr_give ⟨Nat.le_of_ble_eq_true rfl, Nat.le_of_ble_eq_true rfl⟩ hl.1 rfl (Nat.le_of_ble_eq_true rfl) d_Mo_ownCall_262 ⟨Nat.le_of_ble_eq_true rfl, Nat.le_of_ble_eq_true rfl⟩) hw hA (fun p154 H locs hp154 hw => ?_)
          obtain ⟨qf152, qa153, rfl, e156, e157, e158, e159, e160, e161, e162, e163, e164, e165, e166, e167, e168, e169, e170, e171⟩ := hp154
          have e156 : (qf152 10).toInt = z149.toInt + 1 := e156
          have e157 : (qf152 1).toInt = ((QF137 p0.toNatClampNeg) 1).toInt := e157
          have e158 : (qf152 2).toInt = ((QF137 p0.toNatClampNeg) 2).toInt := e158
          have e159 : (qf152 3).toInt = ((QF137 p0.toNatClampNeg) 3).toInt := e159
          have e160 : (qf152 4).toInt = ((QF137 p0.toNatClampNeg) 4).toInt := e160
          have e161 : (qf152 5).toInt = ((QF137 p0.toNatClampNeg) 5).toInt := e161
          have e162 : (qf152 6).toInt = ((QF137 p0.toNatClampNeg) 6).toInt := e162
          have e163 : (qf152 7).toInt = ((QF137 p0.toNatClampNeg) 7).toInt := e163
          have e164 : (qf152 11).toInt = ((QF137 p0.toNatClampNeg) 11).toInt := e164
          have e165 : (qf152 12).toInt = ((QF137 p0.toNatClampNeg) 12).toInt := e165
          have e166 : (qf152 13).toInt = ((QF137 p0.toNatClampNeg) 13).toInt := e166
          have e167 : (qf152 14).toInt = ((QF137 p0.toNatClampNeg) 14).toInt := e167
          have e168 : (qf152 21).toInt = ((QF137 p0.toNatClampNeg) 21).toInt := e168
          have e169 : (qf152 23).toInt = ((QF137 p0.toNatClampNeg) 23).toInt := e169
          have e170 : (qf152 24).toInt = ((QF137 p0.toNatClampNeg) 24).toInt := e170
          have e171 : NuU (QA138 p0.toNatClampNeg) qa153 9 z149.toInt (0 : Int32) := e171
          skip
          have hw : pw D A s.heap H locs [wd_Mo cs mo mr (fun _ => none) (upd mf 9 0) md (gMo PG hq), fm 8 (fPg cs PG), fo 13 (fPr cs hq qr QO136 QF137 QA138) p0.toNatClampNeg, wd_Mpr cs (hq p0.toNatClampNeg) (qr p0.toNatClampNeg) (fun _ => QO136 p0.toNatClampNeg) qf152 qa153 (fun _ _ => none)] := hw
          refine lv_iload S.x S.b d_Mo_ownCall_265 (lv_at hl 1 rfl) ?_
          have hw := fpr_in (pr := [wd_Mo cs mo mr (fun _ => none) (upd mf 9 0) md (gMo PG hq), fm 8 (fPg cs PG)]) hw hi147
          obtain ⟨QO172, hu_QO172⟩ : ∃ y : Nat → Option Nat, y = va_up QO136 p0.toNatClampNeg ((fun _ => QO136 p0.toNatClampNeg) 0) := ⟨_, rfl⟩
          obtain ⟨QF173, hu_QF173⟩ : ∃ y : Nat → Nat → Int32, y = va_up QF137 p0.toNatClampNeg qf152 := ⟨_, rfl⟩
          obtain ⟨QA174, hu_QA174⟩ : ∃ y : Nat → Nat → Nat → Int32, y = va_up QA138 p0.toNatClampNeg qa153 := ⟨_, rfl⟩
          have hw : pw D A s.heap _ _ [wd_Mo cs mo mr (fun _ => none) (upd mf 9 0) md (gMo PG hq), fm 8 (fPg cs PG), fm 13 (fPr cs hq qr QO172 QF173 QA174)] := (by rw [hu_QO172, hu_QF173, hu_QA174]; exact hw)
          have hpx : PrX PG RR QO172 QF173 QA174 p0.toNatClampNeg := (by rw [hu_QO172, hu_QF173, hu_QA174]; exact PrX.up (hpr.px hi147) (show (0 ≤ (qf152 1).toInt ∧ (qf152 1).toInt ≤ 1) ∧ (0 ≤ (qf152 21).toInt ∧ (qf152 21).toInt ≤ 4) ∧ (0 ≤ (qf152 23).toInt ∧ (qf152 23).toInt ≤ 4) ∧ (0 ≤ (qf152 24).toInt ∧ (qf152 24).toInt ≤ 1000000) ∧ (0 ≤ (qf152 6).toInt ∧ (qf152 6).toInt ≤ 3) ∧ (0 ≤ (qf152 7).toInt ∧ (qf152 7).toInt ≤ 1) from by omega) (show (qf152 1).toInt = (QF137 p0.toNatClampNeg 1).toInt from by first | exact oz_1811ac7fe4 e157 | omega) (show (QF137 p0.toNatClampNeg 6).toInt ≤ (qf152 6).toInt from by first | exact oz_f9b42d1b56 e162 | omega))
          have hpd : PdT (PG j9) (RR p0.toNatClampNeg) (QF173 p0.toNatClampNeg) (QA174 p0.toNatClampNeg) := (by rw [hu_QF173, hu_QA174, va_up_s, va_up_s]; exact PoT.ans hpo (show (qf152 4).toInt = (QF p0.toNatClampNeg 4).toInt ∧ (qf152 5).toInt = (QF p0.toNatClampNeg 5).toInt ∧ (qf152 11).toInt = (QF p0.toNatClampNeg 11).toInt ∧ (qf152 12).toInt = (QF p0.toNatClampNeg 12).toInt ∧ (qf152 13).toInt = (QF p0.toNatClampNeg 13).toInt ∧ (qf152 14).toInt = (QF p0.toNatClampNeg 14).toInt from by omega) (show (qf152 10).toInt = (QF p0.toNatClampNeg 10).toInt - ((oslots p1.toInt).length : Int) + 1 from by omega) (show (qf152 24).toInt = (QF p0.toNatClampNeg 24).toInt ∨ (p1.toInt = 1 ∧ (qf152 24).toInt = (QF p0.toNatClampNeg 24).toInt + 1) from by omega) (fun i9 q9 => absurd (by rw [hkp.2.2 8 (by decide) (by decide)]) q9) (fun k9 a9 b9 c9 d9 => hkp.2.2 k9 b9 c9) (show NuU _ _ 9 ((QF p0.toNatClampNeg 10).toInt - ((oslots p1.toInt).length : Int)) _ from (by have q8 := e171; rw [show (z149.toInt) = (QF p0.toNatClampNeg 10).toInt - ((oslots p1.toInt).length : Int) by omega] at q8; exact q8)))
          have hko : KpO QO QF QO172 QF173 p0.toNatClampNeg := (by rw [hu_QO172, hu_QF173]; refine ⟨by rw [va_up_s]; first | done | exact hkp.1, ?_⟩; rw [va_up_s]; exact (show (qf152 1).toInt = (QF p0.toNatClampNeg 1).toInt ∧ (qf152 7).toInt = (QF p0.toNatClampNeg 7).toInt ∧ (qf152 11).toInt = (QF p0.toNatClampNeg 11).toInt from by omega))
          have hw : pw D A s.heap _ _ [wd_Mo cs mo mr (fun _ => none) (upd mf 9 0) md (gMo PG hq), fm 13 (fPr cs hq qr QO172 QF173 QA174), fm 8 (fPg cs PG)] := hw.sub [0, 2, 1] rfl rfl
          exact px_iret (v := v140) S hr (z_nar (by omega)) hlk hAe hw (Nat.le_of_ble_eq_true rfl) (Nat.le_of_ble_eq_true rfl) (⟨(upd mf 9 0), md, QO172, QF173, QA174, rfl, (show 0 ≤ v140.toInt from by first | exact e143 | omega), (show v140.toInt ≤ 1 from by first | exact e144 | omega), (show OwQ v140.toInt (PrA PG RR QO172 QF173 QA174) (PrX PG RR QO172 QF173 QA174 p0.toNatClampNeg ∧ PdT (PG j9) (RR p0.toNatClampNeg) (QF173 p0.toNatClampNeg) (QA174 p0.toNatClampNeg)) from (Or.inr ⟨by omega, hpx, hpd⟩)), (show KpO QO QF QO172 QF173 p0.toNatClampNeg from hko), (show (mf 0).toInt = (mf 0).toInt from rfl), (show (mf 2).toInt = (mf 2).toInt from rfl), (show (mf 3).toInt = (mf 3).toInt from rfl), (show (mf 7).toInt = (mf 7).toInt from rfl), (show (mf 8).toInt = (mf 8).toInt from rfl), (show (mf 10).toInt = (mf 10).toInt from rfl), (show Md1 md md from hmdq)⟩) d_Mo_ownCall_267
      · simp only [List.mem_cons, List.not_mem_nil, or_false] at c54
        refine lv_aload_n S.x S.b d_Mo_ownCall_146 rfl (lv_at hl 5 rfl) ?_
        refine lv_iload_n S.x S.b d_Mo_ownCall_147 rfl (lv_at hl 6 rfl) ?_
        refine lv_iload S.x S.b d_Mo_ownCall_148 (lv_at hl 3 rfl) ?_
        have hw : pw D A s.heap _ _ [wd_Mo cs mo mr (fun _ => none) (upd mf 9 0) md (gMo PG hq), fm 8 (fPg cs PG), fm 13 (fPr cs hq qr QO QF QA)] := fm_back (pr := [wd_Mo cs mo mr (fun _ => none) (upd mf 9 0) md (gMo PG hq), fm 8 (fPg cs PG)]) (T := fPr cs hq qr QO QF QA) hw hi1
        have hw : pw D A s.heap _ _ [wd_Mo cs mo mr (fun _ => none) (upd mf 9 0) md (gMo PG hq), fm 13 (fPr cs hq qr QO QF QA), fm 8 (fPg cs PG)] := hw.sub [0, 2, 1] rfl rfl
        refine px_calli (pr := []) (px_runV (As := [.int p0, .int z4]) (rest := []) S (c_mo_receives l D cs RR mo mr md (upd mf 9 0) hq qr QO QF QA PG p0 z4  (show 0 ≤ p0.toInt from by first | exact g0 | omega) (show p0.toInt < 13 from by first | exact g1 | omega) hpr hpg _) hT (pr := []) (pcs := [wd_Mo cs mo mr (fun _ => none) (upd mf 9 0) md (gMo PG hq), fm 13 (fPr cs hq qr QO QF QA), fm 8 (fPg cs PG)]) hw px_X.tt (px_recv hT hw 0 0 rfl rfl rfl) m14_66 m14_63 m14_65 ms_16_1 m1_20 q_Mo_receives ⟨Nat.le_of_ble_eq_true rfl, Nat.le_of_ble_eq_true rfl⟩ hl.1 rfl (Nat.le_of_ble_eq_true rfl) d_Mo_ownCall_150 ⟨Nat.le_of_ble_eq_true rfl, Nat.le_of_ble_eq_true rfl⟩) hw hA (fun v184 p183 H locs hp183 hw => ?_)
        obtain ⟨mf179, QO180, QF181, QA182, rfl, e185, e186, e187, e188, e189, e190, e191, e192, e193, e194⟩ := hp183
        have e185 : PrA PG RR QO180 QF181 QA182 := e185
        have hpr := e185
        have e186 : KpP QO QF QA QO180 QF181 QA182 p0.toNatClampNeg := e186
        have hkp := hkp.tr e186
        have e187 : (mf179 0).toInt = (mf 0).toInt := e187
        have e188 : (mf179 2).toInt = (mf 2).toInt := e188
        have e189 : (mf179 3).toInt = (mf 3).toInt := e189
        have e190 : (mf179 7).toInt = (mf 7).toInt := e190
        have e191 : (mf179 8).toInt = (mf 8).toInt := e191
        have e192 : (mf179 10).toInt = (mf 10).toInt := e192
        have e193 : 0 ≤ v184.toInt := e193
        have e194 : v184.toInt ≤ 1 := e194
        have hw : pw D A s.heap H locs [wd_Mo cs mo mr (fun _ => none) mf179 md (gMo PG hq), fm 13 (fPr cs hq qr QO180 QF181 QA182), fm 8 (fPg cs PG)] := hw
        have lv184 := Int32.le_toInt v184
        have uv184 := Int32.toInt_lt v184
        refine lv_istore (lv' := [(6, .int v184), (7, .int 1), (5, .int 0), (4, .int z4), (3, .ref (hq p0.toNatClampNeg)), (0, .ref mo), (1, .int p0), (2, .int p1)]) S.x S.b d_Mo_ownCall_153 hl (by decide) rfl (fun ls hl => ?_)
        refine lv_goto (tgt := 241) S.x S.b d_Mo_ownCall_155 (by decide) ?_
        refine lv_iload S.x S.b d_Mo_ownCall_241 (lv_at hl 0 rfl) ?_
        refine lv_if_eq (tgt := 265) S.x S.b d_Mo_ownCall_243 (by decide) (fun c195 => ?_) (fun c195 => ?_)
        · have nc195 : v184.toInt = (0 : Int) := (i_eq (x := v184) (y := 0)).mp c195
          refine lv_iload S.x S.b d_Mo_ownCall_265 (lv_at hl 0 rfl) ?_
          exact px_iret (v := v184) S hr (z_nar (by omega)) hlk hAe hw (Nat.le_of_ble_eq_true rfl) (Nat.le_of_ble_eq_true rfl) (⟨mf179, md, QO180, QF181, QA182, rfl, (show 0 ≤ v184.toInt from by first | exact e193 | omega), (show v184.toInt ≤ 1 from by first | exact e194 | omega), (show OwQ v184.toInt (PrA PG RR QO180 QF181 QA182) (PrX PG RR QO180 QF181 QA182 p0.toNatClampNeg ∧ PdT (PG j9) (RR p0.toNatClampNeg) (QF181 p0.toNatClampNeg) (QA182 p0.toNatClampNeg)) from (Or.inl ⟨by omega, hpr⟩)), (show KpO QO QF QO180 QF181 p0.toNatClampNeg from hkp.o), (show (mf179 0).toInt = (mf 0).toInt from by first | exact e187 | omega), (show (mf179 2).toInt = (mf 2).toInt from by first | exact e188 | omega), (show (mf179 3).toInt = (mf 3).toInt from by first | exact e189 | omega), (show (mf179 7).toInt = (mf 7).toInt from by first | exact e190 | omega), (show (mf179 8).toInt = (mf 8).toInt from by first | exact e191 | omega), (show (mf179 10).toInt = (mf 10).toInt from by first | exact e192 | omega), (show Md1 md md from hmdq)⟩) d_Mo_ownCall_267
        · have nc195 : ¬ v184.toInt = (0 : Int) := mt (i_eq (x := v184) (y := 0)).mpr c195
          refine lv_aload_n S.x S.b d_Mo_ownCall_246 rfl (lv_at hl 4 rfl) ?_
          have hkf := hkp.2.1; unfold KpF at hkf
          refine lv_aload_n S.x S.b d_Mo_ownCall_247 rfl (lv_at hl 4 rfl) ?_
          have hw : pw D A s.heap _ _ [wd_Mo cs mo mr (fun _ => none) mf179 md (gMo PG hq), fm 8 (fPg cs PG), fm 13 (fPr cs hq qr QO180 QF181 QA182)] := hw.sub [0, 2, 1] rfl rfl
          have hc197 := cl_nat (x := p0) (by first | exact g0 | omega)
          have hi197 : p0.toNatClampNeg < 13 := by first | exact hi1 | omega
          have hw : pw D A s.heap _ _ [wd_Mo cs mo mr (fun _ => none) mf179 md (gMo PG hq), fm 8 (fPg cs PG), fo 13 (fPr cs hq qr QO180 QF181 QA182) p0.toNatClampNeg, wd_Mpr cs (hq p0.toNatClampNeg) (qr p0.toNatClampNeg) (fun _ => QO180 p0.toNatClampNeg) (QF181 p0.toNatClampNeg) (QA182 p0.toNatClampNeg) (fun _ _ => none)] := fm_out (pr := [wd_Mo cs mo mr (fun _ => none) mf179 md (gMo PG hq), fm 8 (fPg cs PG)]) (T := fPr cs hq qr QO180 QF181 QA182) hw hi197
          have hps197 := hpr.1 p0.toNatClampNeg hi197
          have hpb197 := hps197.1
          unfold PsB at hpb197
          refine px_get S k_Mpr hT hw 3 0 10 (v := .int ((QF181 p0.toNatClampNeg) 10)) rfl rfl rfl (by decide) m11_1 d_Mo_ownCall_248 ?_
          refine lv_iload S.x S.b d_Mo_ownCall_251 (lv_at hl 1 rfl) ?_
          refine lv_isub S.x S.b d_Mo_ownCall_253 ?_
          have lr198 := Int32.le_toInt ((QF181 p0.toNatClampNeg) 10)
          have ur198 := Int32.toInt_lt ((QF181 p0.toNatClampNeg) 10)
          refine lv_topi (fun z199 ez199 => ?_)
          have tz199 : z199.toInt = (((QF181 p0.toNatClampNeg) 10).toInt - (1 : Int) + 2147483648) % 4294967296 - 2147483648 := by rw [ez199]; exact i_sub ((QF181 p0.toNatClampNeg) 10) 1
          have lz199 := Int32.le_toInt z199
          have uz199 := Int32.toInt_lt z199
          try replace tz199 : z199.toInt = ((QF181 p0.toNatClampNeg) 10).toInt - (1 : Int) := by omega
          refine px_put S k_Mpr hT hw 3 0 10 rfl rfl (by decide) m11_1 rfl rfl rfl (Nat.le_of_ble_eq_true rfl) d_Mo_ownCall_254 (w' := wd_Mpr cs (hq p0.toNatClampNeg) (qr p0.toNatClampNeg) (fun _ => QO180 p0.toNatClampNeg) (upd (QF181 p0.toNatClampNeg) 10 z199) (QA182 p0.toNatClampNeg) (fun _ _ => none)) (ps' := [wd_Mo cs mo mr (fun _ => none) mf179 md (gMo PG hq), fm 8 (fPg cs PG), fo 13 (fPr cs hq qr QO180 QF181 QA182) p0.toNatClampNeg, wd_Mpr cs (hq p0.toNatClampNeg) (qr p0.toNatClampNeg) (fun _ => QO180 p0.toNatClampNeg) (upd (QF181 p0.toNatClampNeg) 10 z199) (QA182 p0.toNatClampNeg) (fun _ _ => none)]) rfl rfl (fun H locs hw => ?_)
          refine lv_aload_n S.x S.b d_Mo_ownCall_257 rfl (lv_at hl 4 rfl) ?_
          refine lv_aload_n S.x S.b d_Mo_ownCall_258 rfl (lv_at hl 5 rfl) ?_
          refine px_get S k_Mo hT hw 0 0 9 (v := .int (mf179 9)) rfl rfl rfl (by decide) m11_87 d_Mo_ownCall_259 ?_
          refine px_callv (pr := [wd_Mo cs mo mr (fun _ => none) mf179 md (gMo PG hq), fm 8 (fPg cs PG), fo 13 (fPr cs hq qr QO180 QF181 QA182) p0.toNatClampNeg]) (px_runV (As := [.int (mf179 9)]) (rest := []) S (c_mq_give l D cs (hq p0.toNatClampNeg) (qr p0.toNatClampNeg) (fun _ _ => none) (fun _ => QO180 p0.toNatClampNeg) (upd (QF181 p0.toNatClampNeg) 10 z199) (QA182 p0.toNatClampNeg) (mf179 9)  (show 0 ≤ z199.toInt from by omega) (show z199.toInt < 62500 from by omega) _) hT (pr := [wd_Mo cs mo mr (fun _ => none) mf179 md (gMo PG hq), fm 8 (fPg cs PG), fo 13 (fPr cs hq qr QO180 QF181 QA182) p0.toNatClampNeg]) (pcs := [wd_Mpr cs (hq p0.toNatClampNeg) (qr p0.toNatClampNeg) (fun _ => QO180 p0.toNatClampNeg) (upd (QF181 p0.toNatClampNeg) 10 z199) (QA182 p0.toNatClampNeg) (fun _ _ => none)]) hw px_X.tt (px_recv hT hw 3 0 rfl rfl rfl) m13_161 m14_111 m13_159 m13_160 m1_22 q_Mpr_give ⟨Nat.le_of_ble_eq_true rfl, Nat.le_of_ble_eq_true rfl⟩ hl.1 rfl (Nat.le_of_ble_eq_true rfl) d_Mo_ownCall_262 ⟨Nat.le_of_ble_eq_true rfl, Nat.le_of_ble_eq_true rfl⟩) hw hA (fun p204 H locs hp204 hw => ?_)
          obtain ⟨qf202, qa203, rfl, e206, e207, e208, e209, e210, e211, e212, e213, e214, e215, e216, e217, e218, e219, e220, e221⟩ := hp204
          have e206 : (qf202 10).toInt = z199.toInt + 1 := e206
          have e207 : (qf202 1).toInt = ((QF181 p0.toNatClampNeg) 1).toInt := e207
          have e208 : (qf202 2).toInt = ((QF181 p0.toNatClampNeg) 2).toInt := e208
          have e209 : (qf202 3).toInt = ((QF181 p0.toNatClampNeg) 3).toInt := e209
          have e210 : (qf202 4).toInt = ((QF181 p0.toNatClampNeg) 4).toInt := e210
          have e211 : (qf202 5).toInt = ((QF181 p0.toNatClampNeg) 5).toInt := e211
          have e212 : (qf202 6).toInt = ((QF181 p0.toNatClampNeg) 6).toInt := e212
          have e213 : (qf202 7).toInt = ((QF181 p0.toNatClampNeg) 7).toInt := e213
          have e214 : (qf202 11).toInt = ((QF181 p0.toNatClampNeg) 11).toInt := e214
          have e215 : (qf202 12).toInt = ((QF181 p0.toNatClampNeg) 12).toInt := e215
          have e216 : (qf202 13).toInt = ((QF181 p0.toNatClampNeg) 13).toInt := e216
          have e217 : (qf202 14).toInt = ((QF181 p0.toNatClampNeg) 14).toInt := e217
          have e218 : (qf202 21).toInt = ((QF181 p0.toNatClampNeg) 21).toInt := e218
          have e219 : (qf202 23).toInt = ((QF181 p0.toNatClampNeg) 23).toInt := e219
          have e220 : (qf202 24).toInt = ((QF181 p0.toNatClampNeg) 24).toInt := e220
          have e221 : NuU (QA182 p0.toNatClampNeg) qa203 9 z199.toInt (mf179 9) := e221
          skip
          have hw : pw D A s.heap H locs [wd_Mo cs mo mr (fun _ => none) mf179 md (gMo PG hq), fm 8 (fPg cs PG), fo 13 (fPr cs hq qr QO180 QF181 QA182) p0.toNatClampNeg, wd_Mpr cs (hq p0.toNatClampNeg) (qr p0.toNatClampNeg) (fun _ => QO180 p0.toNatClampNeg) qf202 qa203 (fun _ _ => none)] := hw
          refine lv_iload S.x S.b d_Mo_ownCall_265 (lv_at hl 0 rfl) ?_
          have hw := fpr_in (pr := [wd_Mo cs mo mr (fun _ => none) mf179 md (gMo PG hq), fm 8 (fPg cs PG)]) hw hi197
          obtain ⟨QO222, hu_QO222⟩ : ∃ y : Nat → Option Nat, y = va_up QO180 p0.toNatClampNeg ((fun _ => QO180 p0.toNatClampNeg) 0) := ⟨_, rfl⟩
          obtain ⟨QF223, hu_QF223⟩ : ∃ y : Nat → Nat → Int32, y = va_up QF181 p0.toNatClampNeg qf202 := ⟨_, rfl⟩
          obtain ⟨QA224, hu_QA224⟩ : ∃ y : Nat → Nat → Nat → Int32, y = va_up QA182 p0.toNatClampNeg qa203 := ⟨_, rfl⟩
          have hw : pw D A s.heap _ _ [wd_Mo cs mo mr (fun _ => none) mf179 md (gMo PG hq), fm 8 (fPg cs PG), fm 13 (fPr cs hq qr QO222 QF223 QA224)] := (by rw [hu_QO222, hu_QF223, hu_QA224]; exact hw)
          have hpx : PrX PG RR QO222 QF223 QA224 p0.toNatClampNeg := (by rw [hu_QO222, hu_QF223, hu_QA224]; exact PrX.up (hpr.px hi197) (show (0 ≤ (qf202 1).toInt ∧ (qf202 1).toInt ≤ 1) ∧ (0 ≤ (qf202 21).toInt ∧ (qf202 21).toInt ≤ 4) ∧ (0 ≤ (qf202 23).toInt ∧ (qf202 23).toInt ≤ 4) ∧ (0 ≤ (qf202 24).toInt ∧ (qf202 24).toInt ≤ 1000000) ∧ (0 ≤ (qf202 6).toInt ∧ (qf202 6).toInt ≤ 3) ∧ (0 ≤ (qf202 7).toInt ∧ (qf202 7).toInt ≤ 1) from by omega) (show (qf202 1).toInt = (QF181 p0.toNatClampNeg 1).toInt from by first | exact oz_1811ac7fe4 e207 | omega) (show (QF181 p0.toNatClampNeg 6).toInt ≤ (qf202 6).toInt from by first | exact oz_f9b42d1b56 e212 | omega))
          have hpd : PdT (PG j9) (RR p0.toNatClampNeg) (QF223 p0.toNatClampNeg) (QA224 p0.toNatClampNeg) := (by rw [hu_QF223, hu_QA224, va_up_s, va_up_s]; exact PoT.ans hpo (show (qf202 4).toInt = (QF p0.toNatClampNeg 4).toInt ∧ (qf202 5).toInt = (QF p0.toNatClampNeg 5).toInt ∧ (qf202 11).toInt = (QF p0.toNatClampNeg 11).toInt ∧ (qf202 12).toInt = (QF p0.toNatClampNeg 12).toInt ∧ (qf202 13).toInt = (QF p0.toNatClampNeg 13).toInt ∧ (qf202 14).toInt = (QF p0.toNatClampNeg 14).toInt from by omega) (show (qf202 10).toInt = (QF p0.toNatClampNeg 10).toInt - ((oslots p1.toInt).length : Int) + 1 from by omega) (show (qf202 24).toInt = (QF p0.toNatClampNeg 24).toInt ∨ (p1.toInt = 1 ∧ (qf202 24).toInt = (QF p0.toNatClampNeg 24).toInt + 1) from by omega) (fun i9 q9 => absurd (by rw [hkp.2.2 8 (by decide) (by decide)]) q9) (fun k9 a9 b9 c9 d9 => hkp.2.2 k9 b9 c9) (show NuU _ _ 9 ((QF p0.toNatClampNeg 10).toInt - ((oslots p1.toInt).length : Int)) _ from (by have q8 := e221; rw [show (z199.toInt) = (QF p0.toNatClampNeg 10).toInt - ((oslots p1.toInt).length : Int) by omega] at q8; exact q8)))
          have hko : KpO QO QF QO222 QF223 p0.toNatClampNeg := (by rw [hu_QO222, hu_QF223]; refine ⟨by rw [va_up_s]; first | done | exact hkp.1, ?_⟩; rw [va_up_s]; exact (show (qf202 1).toInt = (QF p0.toNatClampNeg 1).toInt ∧ (qf202 7).toInt = (QF p0.toNatClampNeg 7).toInt ∧ (qf202 11).toInt = (QF p0.toNatClampNeg 11).toInt from by omega))
          have hw : pw D A s.heap _ _ [wd_Mo cs mo mr (fun _ => none) mf179 md (gMo PG hq), fm 13 (fPr cs hq qr QO222 QF223 QA224), fm 8 (fPg cs PG)] := hw.sub [0, 2, 1] rfl rfl
          exact px_iret (v := v184) S hr (z_nar (by omega)) hlk hAe hw (Nat.le_of_ble_eq_true rfl) (Nat.le_of_ble_eq_true rfl) (⟨mf179, md, QO222, QF223, QA224, rfl, (show 0 ≤ v184.toInt from by first | exact e193 | omega), (show v184.toInt ≤ 1 from by first | exact e194 | omega), (show OwQ v184.toInt (PrA PG RR QO222 QF223 QA224) (PrX PG RR QO222 QF223 QA224 p0.toNatClampNeg ∧ PdT (PG j9) (RR p0.toNatClampNeg) (QF223 p0.toNatClampNeg) (QA224 p0.toNatClampNeg)) from (Or.inr ⟨by omega, hpx, hpd⟩)), (show KpO QO QF QO222 QF223 p0.toNatClampNeg from hko), (show (mf179 0).toInt = (mf 0).toInt from by first | exact e187 | omega), (show (mf179 2).toInt = (mf 2).toInt from by first | exact e188 | omega), (show (mf179 3).toInt = (mf 3).toInt from by first | exact e189 | omega), (show (mf179 7).toInt = (mf 7).toInt from by first | exact e190 | omega), (show (mf179 8).toInt = (mf 8).toInt from by first | exact e191 | omega), (show (mf179 10).toInt = (mf 10).toInt from by first | exact e192 | omega), (show Md1 md md from hmdq)⟩) d_Mo_ownCall_267
      · simp only [List.mem_cons, List.not_mem_nil, or_false] at c54
        refine lv_aload_n S.x S.b d_Mo_ownCall_158 rfl (lv_at hl 5 rfl) ?_
        refine lv_iload_n S.x S.b d_Mo_ownCall_159 rfl (lv_at hl 6 rfl) ?_
        refine lv_iload S.x S.b d_Mo_ownCall_160 (lv_at hl 3 rfl) ?_
        have hw : pw D A s.heap _ _ [wd_Mo cs mo mr (fun _ => none) (upd mf 9 0) md (gMo PG hq), fm 8 (fPg cs PG), fm 13 (fPr cs hq qr QO QF QA)] := fm_back (pr := [wd_Mo cs mo mr (fun _ => none) (upd mf 9 0) md (gMo PG hq), fm 8 (fPg cs PG)]) (T := fPr cs hq qr QO QF QA) hw hi1
        have hw : pw D A s.heap _ _ [wd_Mo cs mo mr (fun _ => none) (upd mf 9 0) md (gMo PG hq), fm 13 (fPr cs hq qr QO QF QA), fm 8 (fPg cs PG)] := hw.sub [0, 2, 1] rfl rfl
        refine px_calli (pr := []) (px_runV (As := [.int p0, .int z4]) (rest := []) S (c_mo_asksMore l D cs RR mo mr md (upd mf 9 0) hq qr QO QF QA PG p0 z4  (show 0 ≤ p0.toInt from by first | exact g0 | omega) (show p0.toInt < 13 from by first | exact g1 | omega) hpr hpg _) hT (pr := []) (pcs := [wd_Mo cs mo mr (fun _ => none) (upd mf 9 0) md (gMo PG hq), fm 13 (fPr cs hq qr QO QF QA), fm 8 (fPg cs PG)]) hw px_X.tt (px_recv hT hw 0 0 rfl rfl rfl) m14_78 m14_75 m14_77 ms_16_4 m1_20 q_Mo_asksMore ⟨Nat.le_of_ble_eq_true rfl, Nat.le_of_ble_eq_true rfl⟩ hl.1 rfl (Nat.le_of_ble_eq_true rfl) d_Mo_ownCall_162 ⟨Nat.le_of_ble_eq_true rfl, Nat.le_of_ble_eq_true rfl⟩) hw hA (fun v234 p233 H locs hp233 hw => ?_)
        obtain ⟨mf229, QO230, QF231, QA232, rfl, e235, e236, e237, e238, e239, e240, e241, e242, e243, e244⟩ := hp233
        have e235 : PrA PG RR QO230 QF231 QA232 := e235
        have hpr := e235
        have e236 : KpP QO QF QA QO230 QF231 QA232 p0.toNatClampNeg := e236
        have hkp := hkp.tr e236
        have e237 : (mf229 0).toInt = (mf 0).toInt := e237
        have e238 : (mf229 2).toInt = (mf 2).toInt := e238
        have e239 : (mf229 3).toInt = (mf 3).toInt := e239
        have e240 : (mf229 7).toInt = (mf 7).toInt := e240
        have e241 : (mf229 8).toInt = (mf 8).toInt := e241
        have e242 : (mf229 10).toInt = (mf 10).toInt := e242
        have e243 : 0 ≤ v234.toInt := e243
        have e244 : v234.toInt ≤ 1 := e244
        have hw : pw D A s.heap H locs [wd_Mo cs mo mr (fun _ => none) mf229 md (gMo PG hq), fm 13 (fPr cs hq qr QO230 QF231 QA232), fm 8 (fPg cs PG)] := hw
        have lv234 := Int32.le_toInt v234
        have uv234 := Int32.toInt_lt v234
        refine lv_istore (lv' := [(6, .int v234), (7, .int 1), (5, .int 0), (4, .int z4), (3, .ref (hq p0.toNatClampNeg)), (0, .ref mo), (1, .int p0), (2, .int p1)]) S.x S.b d_Mo_ownCall_165 hl (by decide) rfl (fun ls hl => ?_)
        refine lv_goto (tgt := 241) S.x S.b d_Mo_ownCall_167 (by decide) ?_
        refine lv_iload S.x S.b d_Mo_ownCall_241 (lv_at hl 0 rfl) ?_
        refine lv_if_eq (tgt := 265) S.x S.b d_Mo_ownCall_243 (by decide) (fun c245 => ?_) (fun c245 => ?_)
        · have nc245 : v234.toInt = (0 : Int) := (i_eq (x := v234) (y := 0)).mp c245
          refine lv_iload S.x S.b d_Mo_ownCall_265 (lv_at hl 0 rfl) ?_
          exact px_iret (v := v234) S hr (z_nar (by omega)) hlk hAe hw (Nat.le_of_ble_eq_true rfl) (Nat.le_of_ble_eq_true rfl) (⟨mf229, md, QO230, QF231, QA232, rfl, (show 0 ≤ v234.toInt from by first | exact e243 | omega), (show v234.toInt ≤ 1 from by first | exact e244 | omega), (show OwQ v234.toInt (PrA PG RR QO230 QF231 QA232) (PrX PG RR QO230 QF231 QA232 p0.toNatClampNeg ∧ PdT (PG j9) (RR p0.toNatClampNeg) (QF231 p0.toNatClampNeg) (QA232 p0.toNatClampNeg)) from (Or.inl ⟨by omega, hpr⟩)), (show KpO QO QF QO230 QF231 p0.toNatClampNeg from hkp.o), (show (mf229 0).toInt = (mf 0).toInt from by first | exact e237 | omega), (show (mf229 2).toInt = (mf 2).toInt from by first | exact e238 | omega), (show (mf229 3).toInt = (mf 3).toInt from by first | exact e239 | omega), (show (mf229 7).toInt = (mf 7).toInt from by first | exact e240 | omega), (show (mf229 8).toInt = (mf 8).toInt from by first | exact e241 | omega), (show (mf229 10).toInt = (mf 10).toInt from by first | exact e242 | omega), (show Md1 md md from hmdq)⟩) d_Mo_ownCall_267
        · have nc245 : ¬ v234.toInt = (0 : Int) := mt (i_eq (x := v234) (y := 0)).mpr c245
          refine lv_aload_n S.x S.b d_Mo_ownCall_246 rfl (lv_at hl 4 rfl) ?_
          have hkf := hkp.2.1; unfold KpF at hkf
          refine lv_aload_n S.x S.b d_Mo_ownCall_247 rfl (lv_at hl 4 rfl) ?_
          have hw : pw D A s.heap _ _ [wd_Mo cs mo mr (fun _ => none) mf229 md (gMo PG hq), fm 8 (fPg cs PG), fm 13 (fPr cs hq qr QO230 QF231 QA232)] := hw.sub [0, 2, 1] rfl rfl
          have hc247 := cl_nat (x := p0) (by first | exact g0 | omega)
          have hi247 : p0.toNatClampNeg < 13 := by first | exact hi1 | omega
          have hw : pw D A s.heap _ _ [wd_Mo cs mo mr (fun _ => none) mf229 md (gMo PG hq), fm 8 (fPg cs PG), fo 13 (fPr cs hq qr QO230 QF231 QA232) p0.toNatClampNeg, wd_Mpr cs (hq p0.toNatClampNeg) (qr p0.toNatClampNeg) (fun _ => QO230 p0.toNatClampNeg) (QF231 p0.toNatClampNeg) (QA232 p0.toNatClampNeg) (fun _ _ => none)] := fm_out (pr := [wd_Mo cs mo mr (fun _ => none) mf229 md (gMo PG hq), fm 8 (fPg cs PG)]) (T := fPr cs hq qr QO230 QF231 QA232) hw hi247
          have hps247 := hpr.1 p0.toNatClampNeg hi247
          have hpb247 := hps247.1
          unfold PsB at hpb247
          refine px_get S k_Mpr hT hw 3 0 10 (v := .int ((QF231 p0.toNatClampNeg) 10)) rfl rfl rfl (by decide) m11_1 d_Mo_ownCall_248 ?_
          refine lv_iload S.x S.b d_Mo_ownCall_251 (lv_at hl 1 rfl) ?_
          refine lv_isub S.x S.b d_Mo_ownCall_253 ?_
          have lr248 := Int32.le_toInt ((QF231 p0.toNatClampNeg) 10)
          have ur248 := Int32.toInt_lt ((QF231 p0.toNatClampNeg) 10)
          refine lv_topi (fun z249 ez249 => ?_)
          have tz249 : z249.toInt = (((QF231 p0.toNatClampNeg) 10).toInt - (1 : Int) + 2147483648) % 4294967296 - 2147483648 := by rw [ez249]; exact i_sub ((QF231 p0.toNatClampNeg) 10) 1
          have lz249 := Int32.le_toInt z249
          have uz249 := Int32.toInt_lt z249
          try replace tz249 : z249.toInt = ((QF231 p0.toNatClampNeg) 10).toInt - (1 : Int) := by omega
          refine px_put S k_Mpr hT hw 3 0 10 rfl rfl (by decide) m11_1 rfl rfl rfl (Nat.le_of_ble_eq_true rfl) d_Mo_ownCall_254 (w' := wd_Mpr cs (hq p0.toNatClampNeg) (qr p0.toNatClampNeg) (fun _ => QO230 p0.toNatClampNeg) (upd (QF231 p0.toNatClampNeg) 10 z249) (QA232 p0.toNatClampNeg) (fun _ _ => none)) (ps' := [wd_Mo cs mo mr (fun _ => none) mf229 md (gMo PG hq), fm 8 (fPg cs PG), fo 13 (fPr cs hq qr QO230 QF231 QA232) p0.toNatClampNeg, wd_Mpr cs (hq p0.toNatClampNeg) (qr p0.toNatClampNeg) (fun _ => QO230 p0.toNatClampNeg) (upd (QF231 p0.toNatClampNeg) 10 z249) (QA232 p0.toNatClampNeg) (fun _ _ => none)]) rfl rfl (fun H locs hw => ?_)
          refine lv_aload_n S.x S.b d_Mo_ownCall_257 rfl (lv_at hl 4 rfl) ?_
          refine lv_aload_n S.x S.b d_Mo_ownCall_258 rfl (lv_at hl 5 rfl) ?_
          refine px_get S k_Mo hT hw 0 0 9 (v := .int (mf229 9)) rfl rfl rfl (by decide) m11_87 d_Mo_ownCall_259 ?_
          refine px_callv (pr := [wd_Mo cs mo mr (fun _ => none) mf229 md (gMo PG hq), fm 8 (fPg cs PG), fo 13 (fPr cs hq qr QO230 QF231 QA232) p0.toNatClampNeg]) (px_runV (As := [.int (mf229 9)]) (rest := []) S (c_mq_give l D cs (hq p0.toNatClampNeg) (qr p0.toNatClampNeg) (fun _ _ => none) (fun _ => QO230 p0.toNatClampNeg) (upd (QF231 p0.toNatClampNeg) 10 z249) (QA232 p0.toNatClampNeg) (mf229 9)  (show 0 ≤ z249.toInt from by omega) (show z249.toInt < 62500 from by omega) _) hT (pr := [wd_Mo cs mo mr (fun _ => none) mf229 md (gMo PG hq), fm 8 (fPg cs PG), fo 13 (fPr cs hq qr QO230 QF231 QA232) p0.toNatClampNeg]) (pcs := [wd_Mpr cs (hq p0.toNatClampNeg) (qr p0.toNatClampNeg) (fun _ => QO230 p0.toNatClampNeg) (upd (QF231 p0.toNatClampNeg) 10 z249) (QA232 p0.toNatClampNeg) (fun _ _ => none)]) hw px_X.tt (px_recv hT hw 3 0 rfl rfl rfl) m13_161 m14_111 m13_159 m13_160 m1_22 q_Mpr_give ⟨Nat.le_of_ble_eq_true rfl, Nat.le_of_ble_eq_true rfl⟩ hl.1 rfl (Nat.le_of_ble_eq_true rfl) d_Mo_ownCall_262 ⟨Nat.le_of_ble_eq_true rfl, Nat.le_of_ble_eq_true rfl⟩) hw hA (fun p254 H locs hp254 hw => ?_)
          obtain ⟨qf252, qa253, rfl, e256, e257, e258, e259, e260, e261, e262, e263, e264, e265, e266, e267, e268, e269, e270, e271⟩ := hp254
          have e256 : (qf252 10).toInt = z249.toInt + 1 := e256
          have e257 : (qf252 1).toInt = ((QF231 p0.toNatClampNeg) 1).toInt := e257
          have e258 : (qf252 2).toInt = ((QF231 p0.toNatClampNeg) 2).toInt := e258
          have e259 : (qf252 3).toInt = ((QF231 p0.toNatClampNeg) 3).toInt := e259
          have e260 : (qf252 4).toInt = ((QF231 p0.toNatClampNeg) 4).toInt := e260
          have e261 : (qf252 5).toInt = ((QF231 p0.toNatClampNeg) 5).toInt := e261
          have e262 : (qf252 6).toInt = ((QF231 p0.toNatClampNeg) 6).toInt := e262
          have e263 : (qf252 7).toInt = ((QF231 p0.toNatClampNeg) 7).toInt := e263
          have e264 : (qf252 11).toInt = ((QF231 p0.toNatClampNeg) 11).toInt := e264
          have e265 : (qf252 12).toInt = ((QF231 p0.toNatClampNeg) 12).toInt := e265
          have e266 : (qf252 13).toInt = ((QF231 p0.toNatClampNeg) 13).toInt := e266
          have e267 : (qf252 14).toInt = ((QF231 p0.toNatClampNeg) 14).toInt := e267
          have e268 : (qf252 21).toInt = ((QF231 p0.toNatClampNeg) 21).toInt := e268
          have e269 : (qf252 23).toInt = ((QF231 p0.toNatClampNeg) 23).toInt := e269
          have e270 : (qf252 24).toInt = ((QF231 p0.toNatClampNeg) 24).toInt := e270
          have e271 : NuU (QA232 p0.toNatClampNeg) qa253 9 z249.toInt (mf229 9) := e271
          skip
          have hw : pw D A s.heap H locs [wd_Mo cs mo mr (fun _ => none) mf229 md (gMo PG hq), fm 8 (fPg cs PG), fo 13 (fPr cs hq qr QO230 QF231 QA232) p0.toNatClampNeg, wd_Mpr cs (hq p0.toNatClampNeg) (qr p0.toNatClampNeg) (fun _ => QO230 p0.toNatClampNeg) qf252 qa253 (fun _ _ => none)] := hw
          refine lv_iload S.x S.b d_Mo_ownCall_265 (lv_at hl 0 rfl) ?_
          have hw := fpr_in (pr := [wd_Mo cs mo mr (fun _ => none) mf229 md (gMo PG hq), fm 8 (fPg cs PG)]) hw hi247
          obtain ⟨QO272, hu_QO272⟩ : ∃ y : Nat → Option Nat, y = va_up QO230 p0.toNatClampNeg ((fun _ => QO230 p0.toNatClampNeg) 0) := ⟨_, rfl⟩
          obtain ⟨QF273, hu_QF273⟩ : ∃ y : Nat → Nat → Int32, y = va_up QF231 p0.toNatClampNeg qf252 := ⟨_, rfl⟩
          obtain ⟨QA274, hu_QA274⟩ : ∃ y : Nat → Nat → Nat → Int32, y = va_up QA232 p0.toNatClampNeg qa253 := ⟨_, rfl⟩
          have hw : pw D A s.heap _ _ [wd_Mo cs mo mr (fun _ => none) mf229 md (gMo PG hq), fm 8 (fPg cs PG), fm 13 (fPr cs hq qr QO272 QF273 QA274)] := (by rw [hu_QO272, hu_QF273, hu_QA274]; exact hw)
          have hpx : PrX PG RR QO272 QF273 QA274 p0.toNatClampNeg := (by rw [hu_QO272, hu_QF273, hu_QA274]; exact PrX.up (hpr.px hi247) (show (0 ≤ (qf252 1).toInt ∧ (qf252 1).toInt ≤ 1) ∧ (0 ≤ (qf252 21).toInt ∧ (qf252 21).toInt ≤ 4) ∧ (0 ≤ (qf252 23).toInt ∧ (qf252 23).toInt ≤ 4) ∧ (0 ≤ (qf252 24).toInt ∧ (qf252 24).toInt ≤ 1000000) ∧ (0 ≤ (qf252 6).toInt ∧ (qf252 6).toInt ≤ 3) ∧ (0 ≤ (qf252 7).toInt ∧ (qf252 7).toInt ≤ 1) from by omega) (show (qf252 1).toInt = (QF231 p0.toNatClampNeg 1).toInt from by first | exact oz_1811ac7fe4 e257 | omega) (show (QF231 p0.toNatClampNeg 6).toInt ≤ (qf252 6).toInt from by first | exact oz_f9b42d1b56 e262 | omega))
          have hpd : PdT (PG j9) (RR p0.toNatClampNeg) (QF273 p0.toNatClampNeg) (QA274 p0.toNatClampNeg) := (by rw [hu_QF273, hu_QA274, va_up_s, va_up_s]; exact PoT.ans hpo (show (qf252 4).toInt = (QF p0.toNatClampNeg 4).toInt ∧ (qf252 5).toInt = (QF p0.toNatClampNeg 5).toInt ∧ (qf252 11).toInt = (QF p0.toNatClampNeg 11).toInt ∧ (qf252 12).toInt = (QF p0.toNatClampNeg 12).toInt ∧ (qf252 13).toInt = (QF p0.toNatClampNeg 13).toInt ∧ (qf252 14).toInt = (QF p0.toNatClampNeg 14).toInt from by omega) (show (qf252 10).toInt = (QF p0.toNatClampNeg 10).toInt - ((oslots p1.toInt).length : Int) + 1 from by omega) (show (qf252 24).toInt = (QF p0.toNatClampNeg 24).toInt ∨ (p1.toInt = 1 ∧ (qf252 24).toInt = (QF p0.toNatClampNeg 24).toInt + 1) from by omega) (fun i9 q9 => absurd (by rw [hkp.2.2 8 (by decide) (by decide)]) q9) (fun k9 a9 b9 c9 d9 => hkp.2.2 k9 b9 c9) (show NuU _ _ 9 ((QF p0.toNatClampNeg 10).toInt - ((oslots p1.toInt).length : Int)) _ from (by have q8 := e271; rw [show (z249.toInt) = (QF p0.toNatClampNeg 10).toInt - ((oslots p1.toInt).length : Int) by omega] at q8; exact q8)))
          have hko : KpO QO QF QO272 QF273 p0.toNatClampNeg := (by rw [hu_QO272, hu_QF273]; refine ⟨by rw [va_up_s]; first | done | exact hkp.1, ?_⟩; rw [va_up_s]; exact (show (qf252 1).toInt = (QF p0.toNatClampNeg 1).toInt ∧ (qf252 7).toInt = (QF p0.toNatClampNeg 7).toInt ∧ (qf252 11).toInt = (QF p0.toNatClampNeg 11).toInt from by omega))
          have hw : pw D A s.heap _ _ [wd_Mo cs mo mr (fun _ => none) mf229 md (gMo PG hq), fm 13 (fPr cs hq qr QO272 QF273 QA274), fm 8 (fPg cs PG)] := hw.sub [0, 2, 1] rfl rfl
          exact px_iret (v := v234) S hr (z_nar (by omega)) hlk hAe hw (Nat.le_of_ble_eq_true rfl) (Nat.le_of_ble_eq_true rfl) (⟨mf229, md, QO272, QF273, QA274, rfl, (show 0 ≤ v234.toInt from by first | exact e243 | omega), (show v234.toInt ≤ 1 from by first | exact e244 | omega), (show OwQ v234.toInt (PrA PG RR QO272 QF273 QA274) (PrX PG RR QO272 QF273 QA274 p0.toNatClampNeg ∧ PdT (PG j9) (RR p0.toNatClampNeg) (QF273 p0.toNatClampNeg) (QA274 p0.toNatClampNeg)) from (Or.inr ⟨by omega, hpx, hpd⟩)), (show KpO QO QF QO272 QF273 p0.toNatClampNeg from hko), (show (mf229 0).toInt = (mf 0).toInt from by first | exact e237 | omega), (show (mf229 2).toInt = (mf 2).toInt from by first | exact e238 | omega), (show (mf229 3).toInt = (mf 3).toInt from by first | exact e239 | omega), (show (mf229 7).toInt = (mf 7).toInt from by first | exact e240 | omega), (show (mf229 8).toInt = (mf 8).toInt from by first | exact e241 | omega), (show (mf229 10).toInt = (mf 10).toInt from by first | exact e242 | omega), (show Md1 md md from hmdq)⟩) d_Mo_ownCall_267
      · simp only [List.mem_cons, List.not_mem_nil, or_false] at c54
        refine lv_aload_n S.x S.b d_Mo_ownCall_170 rfl (lv_at hl 5 rfl) ?_
        refine lv_iload_n S.x S.b d_Mo_ownCall_171 rfl (lv_at hl 6 rfl) ?_
        refine lv_iload S.x S.b d_Mo_ownCall_172 (lv_at hl 2 rfl) ?_
        refine lv_iload S.x S.b d_Mo_ownCall_174 (lv_at hl 3 rfl) ?_
        have hw : pw D A s.heap _ _ [wd_Mo cs mo mr (fun _ => none) (upd mf 9 0) md (gMo PG hq), fm 8 (fPg cs PG), fm 13 (fPr cs hq qr QO QF QA)] := fm_back (pr := [wd_Mo cs mo mr (fun _ => none) (upd mf 9 0) md (gMo PG hq), fm 8 (fPg cs PG)]) (T := fPr cs hq qr QO QF QA) hw hi1
        have hw : pw D A s.heap _ _ [wd_Mo cs mo mr (fun _ => none) (upd mf 9 0) md (gMo PG hq), fm 13 (fPr cs hq qr QO QF QA), fm 8 (fPg cs PG)] := hw.sub [0, 2, 1] rfl rfl
        refine px_callv (pr := []) (px_runV (As := [.int p0, .int 0, .int z4]) (rest := []) S (c_mo_spawns l D cs RR mo mr md (upd mf 9 0) hq qr QO QF QA PG p0 0 z4  (show 0 ≤ p0.toInt from by first | exact g0 | omega) (show p0.toInt < 13 from by first | exact g1 | omega) (show 0 ≤ (mf 7).toInt from by first | exact g2 | omega) (show (mf 7).toInt ≤ 100 from by first | exact g3 | omega) (show 0 ≤ (mf 8).toInt from by first | exact g4 | omega) (show (mf 8).toInt ≤ 512 from by first | exact g5 | omega) (show (QF p0.toNatClampNeg 1).toInt = 1 from by first | exact g8 | omega) hpr hpg _) hT (pr := []) (pcs := [wd_Mo cs mo mr (fun _ => none) (upd mf 9 0) md (gMo PG hq), fm 13 (fPr cs hq qr QO QF QA), fm 8 (fPg cs PG)]) hw px_X.tt (px_recv hT hw 0 0 rfl rfl rfl) m14_82 m14_79 m14_81 ms_16_5 m1_20 q_Mo_spawns ⟨Nat.le_of_ble_eq_true rfl, Nat.le_of_ble_eq_true rfl⟩ hl.1 rfl (Nat.le_of_ble_eq_true rfl) d_Mo_ownCall_176 ⟨Nat.le_of_ble_eq_true rfl, Nat.le_of_ble_eq_true rfl⟩) hw hA (fun p283 H locs hp283 hw => ?_)
        obtain ⟨mf279, QO280, QF281, QA282, rfl, e285, e286, e287, e288, e289, e290, e291, e292⟩ := hp283
        have e285 : PrA PG RR QO280 QF281 QA282 := e285
        have hpr := e285
        have e286 : KpP QO QF QA QO280 QF281 QA282 p0.toNatClampNeg := e286
        have hkp := hkp.tr e286
        have e287 : (mf279 0).toInt = (mf 0).toInt := e287
        have e288 : (mf279 2).toInt = (mf 2).toInt := e288
        have e289 : (mf279 3).toInt = (mf 3).toInt := e289
        have e290 : (mf279 7).toInt = (mf 7).toInt := e290
        have e291 : (mf279 8).toInt = (mf 8).toInt := e291
        have e292 : (mf279 10).toInt = (mf 10).toInt := e292
        have hw : pw D A s.heap H locs [wd_Mo cs mo mr (fun _ => none) mf279 md (gMo PG hq), fm 13 (fPr cs hq qr QO280 QF281 QA282), fm 8 (fPg cs PG)] := hw
        refine lv_iconst (v := 2) S.x S.b d_Mo_ownCall_179 (by decide) ?_
        refine lv_istore (lv' := [(7, .int 2), (6, .int 1), (5, .int 0), (4, .int z4), (3, .ref (hq p0.toNatClampNeg)), (0, .ref mo), (1, .int p0), (2, .int p1)]) S.x S.b d_Mo_ownCall_180 hl (by decide) rfl (fun ls hl => ?_)
        refine lv_goto (tgt := 241) S.x S.b d_Mo_ownCall_182 (by decide) ?_
        refine lv_iload S.x S.b d_Mo_ownCall_241 (lv_at hl 1 rfl) ?_
        refine lv_if_eq (tgt := 265) S.x S.b d_Mo_ownCall_243 (by decide) (fun c293 => ?_) (fun c293 => ?_)
        · exact absurd c293 (by decide)
        ·
          refine lv_aload_n S.x S.b d_Mo_ownCall_246 rfl (lv_at hl 4 rfl) ?_
          have hkf := hkp.2.1; unfold KpF at hkf
          refine lv_aload_n S.x S.b d_Mo_ownCall_247 rfl (lv_at hl 4 rfl) ?_
          have hw : pw D A s.heap _ _ [wd_Mo cs mo mr (fun _ => none) mf279 md (gMo PG hq), fm 8 (fPg cs PG), fm 13 (fPr cs hq qr QO280 QF281 QA282)] := hw.sub [0, 2, 1] rfl rfl
          have hc294 := cl_nat (x := p0) (by first | exact g0 | omega)
          have hi294 : p0.toNatClampNeg < 13 := by first | exact hi1 | omega
          have hw : pw D A s.heap _ _ [wd_Mo cs mo mr (fun _ => none) mf279 md (gMo PG hq), fm 8 (fPg cs PG), fo 13 (fPr cs hq qr QO280 QF281 QA282) p0.toNatClampNeg, wd_Mpr cs (hq p0.toNatClampNeg) (qr p0.toNatClampNeg) (fun _ => QO280 p0.toNatClampNeg) (QF281 p0.toNatClampNeg) (QA282 p0.toNatClampNeg) (fun _ _ => none)] := fm_out (pr := [wd_Mo cs mo mr (fun _ => none) mf279 md (gMo PG hq), fm 8 (fPg cs PG)]) (T := fPr cs hq qr QO280 QF281 QA282) hw hi294
          have hps294 := hpr.1 p0.toNatClampNeg hi294
          have hpb294 := hps294.1
          unfold PsB at hpb294
          refine px_get S k_Mpr hT hw 3 0 10 (v := .int ((QF281 p0.toNatClampNeg) 10)) rfl rfl rfl (by decide) m11_1 d_Mo_ownCall_248 ?_
          refine lv_iload S.x S.b d_Mo_ownCall_251 (lv_at hl 0 rfl) ?_
          refine lv_isub S.x S.b d_Mo_ownCall_253 ?_
          have lr295 := Int32.le_toInt ((QF281 p0.toNatClampNeg) 10)
          have ur295 := Int32.toInt_lt ((QF281 p0.toNatClampNeg) 10)
          refine lv_topi (fun z296 ez296 => ?_)
          have tz296 : z296.toInt = (((QF281 p0.toNatClampNeg) 10).toInt - (2 : Int) + 2147483648) % 4294967296 - 2147483648 := by rw [ez296]; exact i_sub ((QF281 p0.toNatClampNeg) 10) 2
          have lz296 := Int32.le_toInt z296
          have uz296 := Int32.toInt_lt z296
          try replace tz296 : z296.toInt = ((QF281 p0.toNatClampNeg) 10).toInt - (2 : Int) := by omega
          refine px_put S k_Mpr hT hw 3 0 10 rfl rfl (by decide) m11_1 rfl rfl rfl (Nat.le_of_ble_eq_true rfl) d_Mo_ownCall_254 (w' := wd_Mpr cs (hq p0.toNatClampNeg) (qr p0.toNatClampNeg) (fun _ => QO280 p0.toNatClampNeg) (upd (QF281 p0.toNatClampNeg) 10 z296) (QA282 p0.toNatClampNeg) (fun _ _ => none)) (ps' := [wd_Mo cs mo mr (fun _ => none) mf279 md (gMo PG hq), fm 8 (fPg cs PG), fo 13 (fPr cs hq qr QO280 QF281 QA282) p0.toNatClampNeg, wd_Mpr cs (hq p0.toNatClampNeg) (qr p0.toNatClampNeg) (fun _ => QO280 p0.toNatClampNeg) (upd (QF281 p0.toNatClampNeg) 10 z296) (QA282 p0.toNatClampNeg) (fun _ _ => none)]) rfl rfl (fun H locs hw => ?_)
          refine lv_aload_n S.x S.b d_Mo_ownCall_257 rfl (lv_at hl 4 rfl) ?_
          refine lv_aload_n S.x S.b d_Mo_ownCall_258 rfl (lv_at hl 5 rfl) ?_
          refine px_get S k_Mo hT hw 0 0 9 (v := .int (mf279 9)) rfl rfl rfl (by decide) m11_87 d_Mo_ownCall_259 ?_
          refine px_callv (pr := [wd_Mo cs mo mr (fun _ => none) mf279 md (gMo PG hq), fm 8 (fPg cs PG), fo 13 (fPr cs hq qr QO280 QF281 QA282) p0.toNatClampNeg]) (px_runV (As := [.int (mf279 9)]) (rest := []) S (c_mq_give l D cs (hq p0.toNatClampNeg) (qr p0.toNatClampNeg) (fun _ _ => none) (fun _ => QO280 p0.toNatClampNeg) (upd (QF281 p0.toNatClampNeg) 10 z296) (QA282 p0.toNatClampNeg) (mf279 9)  (show 0 ≤ z296.toInt from by omega) (show z296.toInt < 62500 from by omega) _) hT (pr := [wd_Mo cs mo mr (fun _ => none) mf279 md (gMo PG hq), fm 8 (fPg cs PG), fo 13 (fPr cs hq qr QO280 QF281 QA282) p0.toNatClampNeg]) (pcs := [wd_Mpr cs (hq p0.toNatClampNeg) (qr p0.toNatClampNeg) (fun _ => QO280 p0.toNatClampNeg) (upd (QF281 p0.toNatClampNeg) 10 z296) (QA282 p0.toNatClampNeg) (fun _ _ => none)]) hw px_X.tt (px_recv hT hw 3 0 rfl rfl rfl) m13_161 m14_111 m13_159 m13_160 m1_22 q_Mpr_give ⟨Nat.le_of_ble_eq_true rfl, Nat.le_of_ble_eq_true rfl⟩ hl.1 rfl (Nat.le_of_ble_eq_true rfl) d_Mo_ownCall_262 ⟨Nat.le_of_ble_eq_true rfl, Nat.le_of_ble_eq_true rfl⟩) hw hA (fun p301 H locs hp301 hw => ?_)
          obtain ⟨qf299, qa300, rfl, e303, e304, e305, e306, e307, e308, e309, e310, e311, e312, e313, e314, e315, e316, e317, e318⟩ := hp301
          have e303 : (qf299 10).toInt = z296.toInt + 1 := e303
          have e304 : (qf299 1).toInt = ((QF281 p0.toNatClampNeg) 1).toInt := e304
          have e305 : (qf299 2).toInt = ((QF281 p0.toNatClampNeg) 2).toInt := e305
          have e306 : (qf299 3).toInt = ((QF281 p0.toNatClampNeg) 3).toInt := e306
          have e307 : (qf299 4).toInt = ((QF281 p0.toNatClampNeg) 4).toInt := e307
          have e308 : (qf299 5).toInt = ((QF281 p0.toNatClampNeg) 5).toInt := e308
          have e309 : (qf299 6).toInt = ((QF281 p0.toNatClampNeg) 6).toInt := e309
          have e310 : (qf299 7).toInt = ((QF281 p0.toNatClampNeg) 7).toInt := e310
          have e311 : (qf299 11).toInt = ((QF281 p0.toNatClampNeg) 11).toInt := e311
          have e312 : (qf299 12).toInt = ((QF281 p0.toNatClampNeg) 12).toInt := e312
          have e313 : (qf299 13).toInt = ((QF281 p0.toNatClampNeg) 13).toInt := e313
          have e314 : (qf299 14).toInt = ((QF281 p0.toNatClampNeg) 14).toInt := e314
          have e315 : (qf299 21).toInt = ((QF281 p0.toNatClampNeg) 21).toInt := e315
          have e316 : (qf299 23).toInt = ((QF281 p0.toNatClampNeg) 23).toInt := e316
          have e317 : (qf299 24).toInt = ((QF281 p0.toNatClampNeg) 24).toInt := e317
          have e318 : NuU (QA282 p0.toNatClampNeg) qa300 9 z296.toInt (mf279 9) := e318
          skip
          have hw : pw D A s.heap H locs [wd_Mo cs mo mr (fun _ => none) mf279 md (gMo PG hq), fm 8 (fPg cs PG), fo 13 (fPr cs hq qr QO280 QF281 QA282) p0.toNatClampNeg, wd_Mpr cs (hq p0.toNatClampNeg) (qr p0.toNatClampNeg) (fun _ => QO280 p0.toNatClampNeg) qf299 qa300 (fun _ _ => none)] := hw
          refine lv_iload S.x S.b d_Mo_ownCall_265 (lv_at hl 1 rfl) ?_
          have hw := fpr_in (pr := [wd_Mo cs mo mr (fun _ => none) mf279 md (gMo PG hq), fm 8 (fPg cs PG)]) hw hi294
          obtain ⟨QO319, hu_QO319⟩ : ∃ y : Nat → Option Nat, y = va_up QO280 p0.toNatClampNeg ((fun _ => QO280 p0.toNatClampNeg) 0) := ⟨_, rfl⟩
          obtain ⟨QF320, hu_QF320⟩ : ∃ y : Nat → Nat → Int32, y = va_up QF281 p0.toNatClampNeg qf299 := ⟨_, rfl⟩
          obtain ⟨QA321, hu_QA321⟩ : ∃ y : Nat → Nat → Nat → Int32, y = va_up QA282 p0.toNatClampNeg qa300 := ⟨_, rfl⟩
          have hw : pw D A s.heap _ _ [wd_Mo cs mo mr (fun _ => none) mf279 md (gMo PG hq), fm 8 (fPg cs PG), fm 13 (fPr cs hq qr QO319 QF320 QA321)] := (by rw [hu_QO319, hu_QF320, hu_QA321]; exact hw)
          have hpx : PrX PG RR QO319 QF320 QA321 p0.toNatClampNeg := (by rw [hu_QO319, hu_QF320, hu_QA321]; exact PrX.up (hpr.px hi294) (show (0 ≤ (qf299 1).toInt ∧ (qf299 1).toInt ≤ 1) ∧ (0 ≤ (qf299 21).toInt ∧ (qf299 21).toInt ≤ 4) ∧ (0 ≤ (qf299 23).toInt ∧ (qf299 23).toInt ≤ 4) ∧ (0 ≤ (qf299 24).toInt ∧ (qf299 24).toInt ≤ 1000000) ∧ (0 ≤ (qf299 6).toInt ∧ (qf299 6).toInt ≤ 3) ∧ (0 ≤ (qf299 7).toInt ∧ (qf299 7).toInt ≤ 1) from by omega) (show (qf299 1).toInt = (QF281 p0.toNatClampNeg 1).toInt from by first | exact oz_1811ac7fe4 e304 | omega) (show (QF281 p0.toNatClampNeg 6).toInt ≤ (qf299 6).toInt from by first | exact oz_f9b42d1b56 e309 | omega))
          have hpd : PdT (PG j9) (RR p0.toNatClampNeg) (QF320 p0.toNatClampNeg) (QA321 p0.toNatClampNeg) := (by rw [hu_QF320, hu_QA321, va_up_s, va_up_s]; exact PoT.ans hpo (show (qf299 4).toInt = (QF p0.toNatClampNeg 4).toInt ∧ (qf299 5).toInt = (QF p0.toNatClampNeg 5).toInt ∧ (qf299 11).toInt = (QF p0.toNatClampNeg 11).toInt ∧ (qf299 12).toInt = (QF p0.toNatClampNeg 12).toInt ∧ (qf299 13).toInt = (QF p0.toNatClampNeg 13).toInt ∧ (qf299 14).toInt = (QF p0.toNatClampNeg 14).toInt from by omega) (show (qf299 10).toInt = (QF p0.toNatClampNeg 10).toInt - ((oslots p1.toInt).length : Int) + 1 from by omega) (show (qf299 24).toInt = (QF p0.toNatClampNeg 24).toInt ∨ (p1.toInt = 1 ∧ (qf299 24).toInt = (QF p0.toNatClampNeg 24).toInt + 1) from by omega) (fun i9 q9 => absurd (by rw [hkp.2.2 8 (by decide) (by decide)]) q9) (fun k9 a9 b9 c9 d9 => hkp.2.2 k9 b9 c9) (show NuU _ _ 9 ((QF p0.toNatClampNeg 10).toInt - ((oslots p1.toInt).length : Int)) _ from (by have q8 := e318; rw [show (z296.toInt) = (QF p0.toNatClampNeg 10).toInt - ((oslots p1.toInt).length : Int) by omega] at q8; exact q8)))
          have hko : KpO QO QF QO319 QF320 p0.toNatClampNeg := (by rw [hu_QO319, hu_QF320]; refine ⟨by rw [va_up_s]; first | done | exact hkp.1, ?_⟩; rw [va_up_s]; exact (show (qf299 1).toInt = (QF p0.toNatClampNeg 1).toInt ∧ (qf299 7).toInt = (QF p0.toNatClampNeg 7).toInt ∧ (qf299 11).toInt = (QF p0.toNatClampNeg 11).toInt from by omega))
          have hw : pw D A s.heap _ _ [wd_Mo cs mo mr (fun _ => none) mf279 md (gMo PG hq), fm 13 (fPr cs hq qr QO319 QF320 QA321), fm 8 (fPg cs PG)] := hw.sub [0, 2, 1] rfl rfl
          exact px_iret (v := 1) S hr rfl hlk hAe hw (Nat.le_of_ble_eq_true rfl) (Nat.le_of_ble_eq_true rfl) (⟨mf279, md, QO319, QF320, QA321, rfl, (show 0 ≤ (1 : Int) from by first | exact oz_19c3a41681 | omega), (show (1 : Int) ≤ 1 from by first | exact oz_f9181dc4bb | omega), (show OwQ (1 : Int) (PrA PG RR QO319 QF320 QA321) (PrX PG RR QO319 QF320 QA321 p0.toNatClampNeg ∧ PdT (PG j9) (RR p0.toNatClampNeg) (QF320 p0.toNatClampNeg) (QA321 p0.toNatClampNeg)) from (Or.inr ⟨by omega, hpx, hpd⟩)), (show KpO QO QF QO319 QF320 p0.toNatClampNeg from hko), (show (mf279 0).toInt = (mf 0).toInt from by first | exact e287 | omega), (show (mf279 2).toInt = (mf 2).toInt from by first | exact e288 | omega), (show (mf279 3).toInt = (mf 3).toInt from by first | exact e289 | omega), (show (mf279 7).toInt = (mf 7).toInt from by first | exact e290 | omega), (show (mf279 8).toInt = (mf 8).toInt from by first | exact e291 | omega), (show (mf279 10).toInt = (mf 10).toInt from by first | exact e292 | omega), (show Md1 md md from hmdq)⟩) d_Mo_ownCall_267
      · simp only [List.mem_cons, List.not_mem_nil, or_false] at c54
        refine lv_aload_n S.x S.b d_Mo_ownCall_185 rfl (lv_at hl 5 rfl) ?_
        refine lv_iload_n S.x S.b d_Mo_ownCall_186 rfl (lv_at hl 6 rfl) ?_
        refine lv_iload S.x S.b d_Mo_ownCall_187 (lv_at hl 3 rfl) ?_
        have hw : pw D A s.heap _ _ [wd_Mo cs mo mr (fun _ => none) (upd mf 9 0) md (gMo PG hq), fm 8 (fPg cs PG), fm 13 (fPr cs hq qr QO QF QA)] := fm_back (pr := [wd_Mo cs mo mr (fun _ => none) (upd mf 9 0) md (gMo PG hq), fm 8 (fPg cs PG)]) (T := fPr cs hq qr QO QF QA) hw hi1
        have hw : pw D A s.heap _ _ [wd_Mo cs mo mr (fun _ => none) (upd mf 9 0) md (gMo PG hq), fm 13 (fPr cs hq qr QO QF QA), fm 8 (fPg cs PG)] := hw.sub [0, 2, 1] rfl rfl
        refine px_calli (pr := []) (px_runV (As := [.int p0, .int z4]) (rest := []) S (c_mo_waits l D cs RR mo mr md (upd mf 9 0) hq qr QO QF QA PG p0 z4  (show 0 ≤ p0.toInt from by first | exact g0 | omega) (show p0.toInt < 13 from by first | exact g1 | omega) hpr hpg _) hT (pr := []) (pcs := [wd_Mo cs mo mr (fun _ => none) (upd mf 9 0) md (gMo PG hq), fm 13 (fPr cs hq qr QO QF QA), fm 8 (fPg cs PG)]) hw px_X.tt (px_recv hT hw 0 0 rfl rfl rfl) m14_86 m14_83 m14_85 ms_16_6 m1_20 q_Mo_waits ⟨Nat.le_of_ble_eq_true rfl, Nat.le_of_ble_eq_true rfl⟩ hl.1 rfl (Nat.le_of_ble_eq_true rfl) d_Mo_ownCall_189 ⟨Nat.le_of_ble_eq_true rfl, Nat.le_of_ble_eq_true rfl⟩) hw hA (fun v331 p330 H locs hp330 hw => ?_)
        obtain ⟨mf326, QO327, QF328, QA329, rfl, e332, e333, e334, e335, e336, e337, e338, e339, e340, e341⟩ := hp330
        have e332 : PrA PG RR QO327 QF328 QA329 := e332
        have hpr := e332
        have e333 : KpP QO QF QA QO327 QF328 QA329 p0.toNatClampNeg := e333
        have hkp := hkp.tr e333
        have e334 : (mf326 0).toInt = (mf 0).toInt := e334
        have e335 : (mf326 2).toInt = (mf 2).toInt := e335
        have e336 : (mf326 3).toInt = (mf 3).toInt := e336
        have e337 : (mf326 7).toInt = (mf 7).toInt := e337
        have e338 : (mf326 8).toInt = (mf 8).toInt := e338
        have e339 : (mf326 10).toInt = (mf 10).toInt := e339
        have e340 : 0 ≤ v331.toInt := e340
        have e341 : v331.toInt ≤ 1 := e341
        have hw : pw D A s.heap H locs [wd_Mo cs mo mr (fun _ => none) mf326 md (gMo PG hq), fm 13 (fPr cs hq qr QO327 QF328 QA329), fm 8 (fPg cs PG)] := hw
        have lv331 := Int32.le_toInt v331
        have uv331 := Int32.toInt_lt v331
        refine lv_istore (lv' := [(6, .int v331), (7, .int 1), (5, .int 0), (4, .int z4), (3, .ref (hq p0.toNatClampNeg)), (0, .ref mo), (1, .int p0), (2, .int p1)]) S.x S.b d_Mo_ownCall_192 hl (by decide) rfl (fun ls hl => ?_)
        refine lv_goto (tgt := 241) S.x S.b d_Mo_ownCall_194 (by decide) ?_
        refine lv_iload S.x S.b d_Mo_ownCall_241 (lv_at hl 0 rfl) ?_
        refine lv_if_eq (tgt := 265) S.x S.b d_Mo_ownCall_243 (by decide) (fun c342 => ?_) (fun c342 => ?_)
        · have nc342 : v331.toInt = (0 : Int) := (i_eq (x := v331) (y := 0)).mp c342
          refine lv_iload S.x S.b d_Mo_ownCall_265 (lv_at hl 0 rfl) ?_
          exact px_iret (v := v331) S hr (z_nar (by omega)) hlk hAe hw (Nat.le_of_ble_eq_true rfl) (Nat.le_of_ble_eq_true rfl) (⟨mf326, md, QO327, QF328, QA329, rfl, (show 0 ≤ v331.toInt from by first | exact e340 | omega), (show v331.toInt ≤ 1 from by first | exact e341 | omega), (show OwQ v331.toInt (PrA PG RR QO327 QF328 QA329) (PrX PG RR QO327 QF328 QA329 p0.toNatClampNeg ∧ PdT (PG j9) (RR p0.toNatClampNeg) (QF328 p0.toNatClampNeg) (QA329 p0.toNatClampNeg)) from (Or.inl ⟨by omega, hpr⟩)), (show KpO QO QF QO327 QF328 p0.toNatClampNeg from hkp.o), (show (mf326 0).toInt = (mf 0).toInt from by first | exact e334 | omega), (show (mf326 2).toInt = (mf 2).toInt from by first | exact e335 | omega), (show (mf326 3).toInt = (mf 3).toInt from by first | exact e336 | omega), (show (mf326 7).toInt = (mf 7).toInt from by first | exact e337 | omega), (show (mf326 8).toInt = (mf 8).toInt from by first | exact e338 | omega), (show (mf326 10).toInt = (mf 10).toInt from by first | exact e339 | omega), (show Md1 md md from hmdq)⟩) d_Mo_ownCall_267
        · have nc342 : ¬ v331.toInt = (0 : Int) := mt (i_eq (x := v331) (y := 0)).mpr c342
          refine lv_aload_n S.x S.b d_Mo_ownCall_246 rfl (lv_at hl 4 rfl) ?_
          have hkf := hkp.2.1; unfold KpF at hkf
          refine lv_aload_n S.x S.b d_Mo_ownCall_247 rfl (lv_at hl 4 rfl) ?_
          have hw : pw D A s.heap _ _ [wd_Mo cs mo mr (fun _ => none) mf326 md (gMo PG hq), fm 8 (fPg cs PG), fm 13 (fPr cs hq qr QO327 QF328 QA329)] := hw.sub [0, 2, 1] rfl rfl
          have hc344 := cl_nat (x := p0) (by first | exact g0 | omega)
          have hi344 : p0.toNatClampNeg < 13 := by first | exact hi1 | omega
          have hw : pw D A s.heap _ _ [wd_Mo cs mo mr (fun _ => none) mf326 md (gMo PG hq), fm 8 (fPg cs PG), fo 13 (fPr cs hq qr QO327 QF328 QA329) p0.toNatClampNeg, wd_Mpr cs (hq p0.toNatClampNeg) (qr p0.toNatClampNeg) (fun _ => QO327 p0.toNatClampNeg) (QF328 p0.toNatClampNeg) (QA329 p0.toNatClampNeg) (fun _ _ => none)] := fm_out (pr := [wd_Mo cs mo mr (fun _ => none) mf326 md (gMo PG hq), fm 8 (fPg cs PG)]) (T := fPr cs hq qr QO327 QF328 QA329) hw hi344
          have hps344 := hpr.1 p0.toNatClampNeg hi344
          have hpb344 := hps344.1
          unfold PsB at hpb344
          refine px_get S k_Mpr hT hw 3 0 10 (v := .int ((QF328 p0.toNatClampNeg) 10)) rfl rfl rfl (by decide) m11_1 d_Mo_ownCall_248 ?_
          refine lv_iload S.x S.b d_Mo_ownCall_251 (lv_at hl 1 rfl) ?_
          refine lv_isub S.x S.b d_Mo_ownCall_253 ?_
          have lr345 := Int32.le_toInt ((QF328 p0.toNatClampNeg) 10)
          have ur345 := Int32.toInt_lt ((QF328 p0.toNatClampNeg) 10)
          refine lv_topi (fun z346 ez346 => ?_)
          have tz346 : z346.toInt = (((QF328 p0.toNatClampNeg) 10).toInt - (1 : Int) + 2147483648) % 4294967296 - 2147483648 := by rw [ez346]; exact i_sub ((QF328 p0.toNatClampNeg) 10) 1
          have lz346 := Int32.le_toInt z346
          have uz346 := Int32.toInt_lt z346
          try replace tz346 : z346.toInt = ((QF328 p0.toNatClampNeg) 10).toInt - (1 : Int) := by omega
          refine px_put S k_Mpr hT hw 3 0 10 rfl rfl (by decide) m11_1 rfl rfl rfl (Nat.le_of_ble_eq_true rfl) d_Mo_ownCall_254 (w' := wd_Mpr cs (hq p0.toNatClampNeg) (qr p0.toNatClampNeg) (fun _ => QO327 p0.toNatClampNeg) (upd (QF328 p0.toNatClampNeg) 10 z346) (QA329 p0.toNatClampNeg) (fun _ _ => none)) (ps' := [wd_Mo cs mo mr (fun _ => none) mf326 md (gMo PG hq), fm 8 (fPg cs PG), fo 13 (fPr cs hq qr QO327 QF328 QA329) p0.toNatClampNeg, wd_Mpr cs (hq p0.toNatClampNeg) (qr p0.toNatClampNeg) (fun _ => QO327 p0.toNatClampNeg) (upd (QF328 p0.toNatClampNeg) 10 z346) (QA329 p0.toNatClampNeg) (fun _ _ => none)]) rfl rfl (fun H locs hw => ?_)
          refine lv_aload_n S.x S.b d_Mo_ownCall_257 rfl (lv_at hl 4 rfl) ?_
          refine lv_aload_n S.x S.b d_Mo_ownCall_258 rfl (lv_at hl 5 rfl) ?_
          refine px_get S k_Mo hT hw 0 0 9 (v := .int (mf326 9)) rfl rfl rfl (by decide) m11_87 d_Mo_ownCall_259 ?_
          refine px_callv (pr := [wd_Mo cs mo mr (fun _ => none) mf326 md (gMo PG hq), fm 8 (fPg cs PG), fo 13 (fPr cs hq qr QO327 QF328 QA329) p0.toNatClampNeg]) (px_runV (As := [.int (mf326 9)]) (rest := []) S (c_mq_give l D cs (hq p0.toNatClampNeg) (qr p0.toNatClampNeg) (fun _ _ => none) (fun _ => QO327 p0.toNatClampNeg) (upd (QF328 p0.toNatClampNeg) 10 z346) (QA329 p0.toNatClampNeg) (mf326 9)  (show 0 ≤ z346.toInt from by omega) (show z346.toInt < 62500 from by omega) _) hT (pr := [wd_Mo cs mo mr (fun _ => none) mf326 md (gMo PG hq), fm 8 (fPg cs PG), fo 13 (fPr cs hq qr QO327 QF328 QA329) p0.toNatClampNeg]) (pcs := [wd_Mpr cs (hq p0.toNatClampNeg) (qr p0.toNatClampNeg) (fun _ => QO327 p0.toNatClampNeg) (upd (QF328 p0.toNatClampNeg) 10 z346) (QA329 p0.toNatClampNeg) (fun _ _ => none)]) hw px_X.tt (px_recv hT hw 3 0 rfl rfl rfl) m13_161 m14_111 m13_159 m13_160 m1_22 q_Mpr_give ⟨Nat.le_of_ble_eq_true rfl, Nat.le_of_ble_eq_true rfl⟩ hl.1 rfl (Nat.le_of_ble_eq_true rfl) d_Mo_ownCall_262 ⟨Nat.le_of_ble_eq_true rfl, Nat.le_of_ble_eq_true rfl⟩) hw hA (fun p351 H locs hp351 hw => ?_)
          obtain ⟨qf349, qa350, rfl, e353, e354, e355, e356, e357, e358, e359, e360, e361, e362, e363, e364, e365, e366, e367, e368⟩ := hp351
          have e353 : (qf349 10).toInt = z346.toInt + 1 := e353
          have e354 : (qf349 1).toInt = ((QF328 p0.toNatClampNeg) 1).toInt := e354
          have e355 : (qf349 2).toInt = ((QF328 p0.toNatClampNeg) 2).toInt := e355
          have e356 : (qf349 3).toInt = ((QF328 p0.toNatClampNeg) 3).toInt := e356
          have e357 : (qf349 4).toInt = ((QF328 p0.toNatClampNeg) 4).toInt := e357
          have e358 : (qf349 5).toInt = ((QF328 p0.toNatClampNeg) 5).toInt := e358
          have e359 : (qf349 6).toInt = ((QF328 p0.toNatClampNeg) 6).toInt := e359
          have e360 : (qf349 7).toInt = ((QF328 p0.toNatClampNeg) 7).toInt := e360
          have e361 : (qf349 11).toInt = ((QF328 p0.toNatClampNeg) 11).toInt := e361
          have e362 : (qf349 12).toInt = ((QF328 p0.toNatClampNeg) 12).toInt := e362
          have e363 : (qf349 13).toInt = ((QF328 p0.toNatClampNeg) 13).toInt := e363
          have e364 : (qf349 14).toInt = ((QF328 p0.toNatClampNeg) 14).toInt := e364
          have e365 : (qf349 21).toInt = ((QF328 p0.toNatClampNeg) 21).toInt := e365
          have e366 : (qf349 23).toInt = ((QF328 p0.toNatClampNeg) 23).toInt := e366
          have e367 : (qf349 24).toInt = ((QF328 p0.toNatClampNeg) 24).toInt := e367
          have e368 : NuU (QA329 p0.toNatClampNeg) qa350 9 z346.toInt (mf326 9) := e368
          skip
          have hw : pw D A s.heap H locs [wd_Mo cs mo mr (fun _ => none) mf326 md (gMo PG hq), fm 8 (fPg cs PG), fo 13 (fPr cs hq qr QO327 QF328 QA329) p0.toNatClampNeg, wd_Mpr cs (hq p0.toNatClampNeg) (qr p0.toNatClampNeg) (fun _ => QO327 p0.toNatClampNeg) qf349 qa350 (fun _ _ => none)] := hw
          refine lv_iload S.x S.b d_Mo_ownCall_265 (lv_at hl 0 rfl) ?_
          have hw := fpr_in (pr := [wd_Mo cs mo mr (fun _ => none) mf326 md (gMo PG hq), fm 8 (fPg cs PG)]) hw hi344
          obtain ⟨QO369, hu_QO369⟩ : ∃ y : Nat → Option Nat, y = va_up QO327 p0.toNatClampNeg ((fun _ => QO327 p0.toNatClampNeg) 0) := ⟨_, rfl⟩
          obtain ⟨QF370, hu_QF370⟩ : ∃ y : Nat → Nat → Int32, y = va_up QF328 p0.toNatClampNeg qf349 := ⟨_, rfl⟩
          obtain ⟨QA371, hu_QA371⟩ : ∃ y : Nat → Nat → Nat → Int32, y = va_up QA329 p0.toNatClampNeg qa350 := ⟨_, rfl⟩
          have hw : pw D A s.heap _ _ [wd_Mo cs mo mr (fun _ => none) mf326 md (gMo PG hq), fm 8 (fPg cs PG), fm 13 (fPr cs hq qr QO369 QF370 QA371)] := (by rw [hu_QO369, hu_QF370, hu_QA371]; exact hw)
          have hpx : PrX PG RR QO369 QF370 QA371 p0.toNatClampNeg := (by rw [hu_QO369, hu_QF370, hu_QA371]; exact PrX.up (hpr.px hi344) (show (0 ≤ (qf349 1).toInt ∧ (qf349 1).toInt ≤ 1) ∧ (0 ≤ (qf349 21).toInt ∧ (qf349 21).toInt ≤ 4) ∧ (0 ≤ (qf349 23).toInt ∧ (qf349 23).toInt ≤ 4) ∧ (0 ≤ (qf349 24).toInt ∧ (qf349 24).toInt ≤ 1000000) ∧ (0 ≤ (qf349 6).toInt ∧ (qf349 6).toInt ≤ 3) ∧ (0 ≤ (qf349 7).toInt ∧ (qf349 7).toInt ≤ 1) from by omega) (show (qf349 1).toInt = (QF328 p0.toNatClampNeg 1).toInt from by first | exact oz_1811ac7fe4 e354 | omega) (show (QF328 p0.toNatClampNeg 6).toInt ≤ (qf349 6).toInt from by first | exact oz_f9b42d1b56 e359 | omega))
          have hpd : PdT (PG j9) (RR p0.toNatClampNeg) (QF370 p0.toNatClampNeg) (QA371 p0.toNatClampNeg) := (by rw [hu_QF370, hu_QA371, va_up_s, va_up_s]; exact PoT.ans hpo (show (qf349 4).toInt = (QF p0.toNatClampNeg 4).toInt ∧ (qf349 5).toInt = (QF p0.toNatClampNeg 5).toInt ∧ (qf349 11).toInt = (QF p0.toNatClampNeg 11).toInt ∧ (qf349 12).toInt = (QF p0.toNatClampNeg 12).toInt ∧ (qf349 13).toInt = (QF p0.toNatClampNeg 13).toInt ∧ (qf349 14).toInt = (QF p0.toNatClampNeg 14).toInt from by omega) (show (qf349 10).toInt = (QF p0.toNatClampNeg 10).toInt - ((oslots p1.toInt).length : Int) + 1 from by omega) (show (qf349 24).toInt = (QF p0.toNatClampNeg 24).toInt ∨ (p1.toInt = 1 ∧ (qf349 24).toInt = (QF p0.toNatClampNeg 24).toInt + 1) from by omega) (fun i9 q9 => absurd (by rw [hkp.2.2 8 (by decide) (by decide)]) q9) (fun k9 a9 b9 c9 d9 => hkp.2.2 k9 b9 c9) (show NuU _ _ 9 ((QF p0.toNatClampNeg 10).toInt - ((oslots p1.toInt).length : Int)) _ from (by have q8 := e368; rw [show (z346.toInt) = (QF p0.toNatClampNeg 10).toInt - ((oslots p1.toInt).length : Int) by omega] at q8; exact q8)))
          have hko : KpO QO QF QO369 QF370 p0.toNatClampNeg := (by rw [hu_QO369, hu_QF370]; refine ⟨by rw [va_up_s]; first | done | exact hkp.1, ?_⟩; rw [va_up_s]; exact (show (qf349 1).toInt = (QF p0.toNatClampNeg 1).toInt ∧ (qf349 7).toInt = (QF p0.toNatClampNeg 7).toInt ∧ (qf349 11).toInt = (QF p0.toNatClampNeg 11).toInt from by omega))
          have hw : pw D A s.heap _ _ [wd_Mo cs mo mr (fun _ => none) mf326 md (gMo PG hq), fm 13 (fPr cs hq qr QO369 QF370 QA371), fm 8 (fPg cs PG)] := hw.sub [0, 2, 1] rfl rfl
          exact px_iret (v := v331) S hr (z_nar (by omega)) hlk hAe hw (Nat.le_of_ble_eq_true rfl) (Nat.le_of_ble_eq_true rfl) (⟨mf326, md, QO369, QF370, QA371, rfl, (show 0 ≤ v331.toInt from by first | exact e340 | omega), (show v331.toInt ≤ 1 from by first | exact e341 | omega), (show OwQ v331.toInt (PrA PG RR QO369 QF370 QA371) (PrX PG RR QO369 QF370 QA371 p0.toNatClampNeg ∧ PdT (PG j9) (RR p0.toNatClampNeg) (QF370 p0.toNatClampNeg) (QA371 p0.toNatClampNeg)) from (Or.inr ⟨by omega, hpx, hpd⟩)), (show KpO QO QF QO369 QF370 p0.toNatClampNeg from hko), (show (mf326 0).toInt = (mf 0).toInt from by first | exact e334 | omega), (show (mf326 2).toInt = (mf 2).toInt from by first | exact e335 | omega), (show (mf326 3).toInt = (mf 3).toInt from by first | exact e336 | omega), (show (mf326 7).toInt = (mf 7).toInt from by first | exact e337 | omega), (show (mf326 8).toInt = (mf 8).toInt from by first | exact e338 | omega), (show (mf326 10).toInt = (mf 10).toInt from by first | exact e339 | omega), (show Md1 md md from hmdq)⟩) d_Mo_ownCall_267
      · simp only [List.mem_cons, List.not_mem_nil, or_false] at c54
        refine lv_aload_n S.x S.b d_Mo_ownCall_197 rfl (lv_at hl 5 rfl) ?_
        refine lv_iload_n S.x S.b d_Mo_ownCall_198 rfl (lv_at hl 6 rfl) ?_
        refine lv_iload_n S.x S.b d_Mo_ownCall_199 rfl (lv_at hl 7 rfl) ?_
        refine lv_bipush (v := 7) S.x S.b d_Mo_ownCall_200 (by decide) ?_
        refine lv_icmp_ne (tgt := 209) S.x S.b d_Mo_ownCall_202 (by decide) (fun c372 => ?_) (fun c372 => ?_)
        · have nc372 : ¬ p1.toInt = (7 : Int) := mt (i_eq (x := p1) (y := 7)).mpr c372
          exfalso
          omega
        · have nc372 : p1.toInt = (7 : Int) := (i_eq (x := p1) (y := 7)).mp c372
          exfalso
          omega
  · have nc5 : ¬ ((QF p0.toNatClampNeg) 10).toInt ≤ (1 : Int) := mt (i_le (x := ((QF p0.toNatClampNeg) 10)) (y := 1)).mpr c5
    refine lv_aload_n S.x S.b d_Mo_ownCall_28 rfl (lv_at hl 1 rfl) ?_
    refine px_get S k_Mpr hT hw 3 0 9 (v := .ref ((qr p0.toNatClampNeg) 9)) rfl rfl rfl (by decide) m10_239 d_Mo_ownCall_29 ?_
    refine lv_aload_n S.x S.b d_Mo_ownCall_32 rfl (lv_at hl 1 rfl) ?_
    refine px_get S k_Mpr hT hw 3 0 10 (v := .int ((QF p0.toNatClampNeg) 10)) rfl rfl rfl (by decide) m11_1 d_Mo_ownCall_33 ?_
    refine lv_iconst (v := 2) S.x S.b d_Mo_ownCall_36 (by decide) ?_
    refine lv_isub S.x S.b d_Mo_ownCall_37 ?_
    have lr374 := Int32.le_toInt ((QF p0.toNatClampNeg) 10)
    have ur374 := Int32.toInt_lt ((QF p0.toNatClampNeg) 10)
    refine lv_topi (fun z375 ez375 => ?_)
    have tz375 : z375.toInt = (((QF p0.toNatClampNeg) 10).toInt - (2 : Int) + 2147483648) % 4294967296 - 2147483648 := by rw [ez375]; exact i_sub ((QF p0.toNatClampNeg) 10) 2
    have lz375 := Int32.le_toInt z375
    have uz375 := Int32.toInt_lt z375
    try replace tz375 : z375.toInt = ((QF p0.toNatClampNeg) 10).toInt - (2 : Int) := by omega
    refine px_iald S hT hw 3 2 (n := 62500) (f := ((QA p0.toNatClampNeg) 9)) rfl (ga_Mpr_9 _ _ _ _ _ _ _) (x := z375) (vp_in_iff.mpr (by first | exact oz_31acf4d49a tz375 nc5 hpn.2.1 | (constructor <;> omega))) d_Mo_ownCall_38 ?_
    refine lv_topi (fun z376 ez376 => ?_)
    have lz376 := Int32.le_toInt z376
    have uz376 := Int32.toInt_lt z376
    have hx5 : z376 = (QA p0.toNatClampNeg) 9 ((QF p0.toNatClampNeg 10).toInt - 2).toNat := at_k (qa := QA p0.toNatClampNeg) (k := 9) ez376 (by omega) (by omega)
    refine lv_goto (tgt := 43) S.x S.b d_Mo_ownCall_39 (by decide) ?_
    refine lv_istore (lv' := [(5, .int z376), (4, .int z4), (3, .ref (hq p0.toNatClampNeg)), (0, .ref mo), (1, .int p0), (2, .int p1)]) S.x S.b d_Mo_ownCall_43 hl (by decide) rfl (fun ls hl => ?_)
    refine lv_aload_n S.x S.b d_Mo_ownCall_45 rfl (lv_at hl 3 rfl) ?_
    refine lv_iconst (v := 0) S.x S.b d_Mo_ownCall_46 (by decide) ?_
    refine px_put S k_Mo hT hw 0 0 9 rfl rfl (by decide) m11_87 rfl rfl rfl (Nat.le_of_ble_eq_true rfl) d_Mo_ownCall_47 (w' := wd_Mo cs mo mr (fun _ => none) (upd mf 9 0) md (gMo PG hq)) (ps' := [wd_Mo cs mo mr (fun _ => none) (upd mf 9 0) md (gMo PG hq), fm 8 (fPg cs PG), fo 13 (fPr cs hq qr QO QF QA) p0.toNatClampNeg, wd_Mpr cs (hq p0.toNatClampNeg) (qr p0.toNatClampNeg) (fun _ => QO p0.toNatClampNeg) (QF p0.toNatClampNeg) (QA p0.toNatClampNeg) (fun _ _ => none)]) rfl rfl (fun H locs hw => ?_)
    refine lv_iconst (v := 1) S.x S.b d_Mo_ownCall_50 (by decide) ?_
    refine lv_istore (lv' := [(6, .int 1), (5, .int z376), (4, .int z4), (3, .ref (hq p0.toNatClampNeg)), (0, .ref mo), (1, .int p0), (2, .int p1)]) S.x S.b d_Mo_ownCall_51 hl (by decide) rfl (fun ls hl => ?_)
    refine lv_iconst (v := 1) S.x S.b d_Mo_ownCall_53 (by decide) ?_
    refine lv_istore (lv' := [(7, .int 1), (6, .int 1), (5, .int z376), (4, .int z4), (3, .ref (hq p0.toNatClampNeg)), (0, .ref mo), (1, .int p0), (2, .int p1)]) S.x S.b d_Mo_ownCall_54 hl (by decide) rfl (fun ls hl => ?_)
    refine lv_iload_n S.x S.b d_Mo_ownCall_56 rfl (lv_at hl 7 rfl) ?_
    refine px_tableD S (dt := 234) [(108, [0]), (120, [1]), (129, [2]), (146, [3]), (158, [4]), (170, [5]), (185, [6]), (197, [7, 8])] d_Mo_ownCall_57 (by decide +kernel) (by decide) (by decide +kernel) ?_ ?_
    · intro hdf_57
      refine lv_aload_n S.x S.b d_Mo_ownCall_234 rfl (lv_at hl 4 rfl) ?_
      refine lv_iconst (v := 1) S.x S.b d_Mo_ownCall_235 (by decide) ?_
      refine lv_iload S.x S.b d_Mo_ownCall_236 (lv_at hl 3 rfl) ?_
      refine px_callv (pr := [wd_Mo cs mo mr (fun _ => none) (upd mf 9 0) md (gMo PG hq), fm 8 (fPg cs PG), fo 13 (fPr cs hq qr QO QF QA) p0.toNatClampNeg]) (px_runV (As := [.int 1, .int z4]) (rest := []) S (c_mq_end l D cs (hq p0.toNatClampNeg) (qr p0.toNatClampNeg) (fun _ _ => none) (fun _ => QO p0.toNatClampNeg) (QA p0.toNatClampNeg) (QF p0.toNatClampNeg) 1 z4   _) hT (pr := [wd_Mo cs mo mr (fun _ => none) (upd mf 9 0) md (gMo PG hq), fm 8 (fPg cs PG), fo 13 (fPr cs hq qr QO QF QA) p0.toNatClampNeg]) (pcs := [wd_Mpr cs (hq p0.toNatClampNeg) (qr p0.toNatClampNeg) (fun _ => QO p0.toNatClampNeg) (QF p0.toNatClampNeg) (QA p0.toNatClampNeg) (fun _ _ => none)]) hw px_X.tt (px_recv hT hw 3 0 rfl rfl rfl) m13_177 m14_35 m13_175 m13_176 m1_22 q_Mpr_end ⟨Nat.le_of_ble_eq_true rfl, Nat.le_of_ble_eq_true rfl⟩ hl.1 rfl (Nat.le_of_ble_eq_true rfl) d_Mo_ownCall_238 ⟨Nat.le_of_ble_eq_true rfl, Nat.le_of_ble_eq_true rfl⟩) hw hA (fun p380 H locs hp380 hw => ?_)
      obtain ⟨qf379, rfl, e382, e383, e384, e385, e386, e387, e388, e389, e390, e391, e392, e393, e394, e395⟩ := hp380
      have e382 : (qf379 2).toInt = (1 : Int) := e382
      have e383 : (qf379 1).toInt = ((QF p0.toNatClampNeg) 1).toInt := e383
      have e384 : (qf379 4).toInt = ((QF p0.toNatClampNeg) 4).toInt := e384
      have e385 : (qf379 5).toInt = ((QF p0.toNatClampNeg) 5).toInt := e385
      have e386 : (qf379 6).toInt = ((QF p0.toNatClampNeg) 6).toInt := e386
      have e387 : (qf379 7).toInt = ((QF p0.toNatClampNeg) 7).toInt := e387
      have e388 : (qf379 10).toInt = ((QF p0.toNatClampNeg) 10).toInt := e388
      have e389 : (qf379 11).toInt = ((QF p0.toNatClampNeg) 11).toInt := e389
      have e390 : (qf379 12).toInt = ((QF p0.toNatClampNeg) 12).toInt := e390
      have e391 : (qf379 13).toInt = ((QF p0.toNatClampNeg) 13).toInt := e391
      have e392 : (qf379 14).toInt = ((QF p0.toNatClampNeg) 14).toInt := e392
      have e393 : (qf379 21).toInt = ((QF p0.toNatClampNeg) 21).toInt := e393
      have e394 : (qf379 23).toInt = ((QF p0.toNatClampNeg) 23).toInt := e394
      have e395 : (qf379 24).toInt = ((QF p0.toNatClampNeg) 24).toInt := e395
      have hw : pw D A s.heap H locs [wd_Mo cs mo mr (fun _ => none) (upd mf 9 0) md (gMo PG hq), fm 8 (fPg cs PG), fo 13 (fPr cs hq qr QO QF QA) p0.toNatClampNeg, wd_Mpr cs (hq p0.toNatClampNeg) (qr p0.toNatClampNeg) (fun _ => QO p0.toNatClampNeg) qf379 (QA p0.toNatClampNeg) (fun _ _ => none)] := hw
      refine lv_iload S.x S.b d_Mo_ownCall_241 (lv_at hl 1 rfl) ?_
      refine lv_if_eq (tgt := 265) S.x S.b d_Mo_ownCall_243 (by decide) (fun c396 => ?_) (fun c396 => ?_)
      · exact absurd c396 (by decide)
      ·
        refine lv_aload_n S.x S.b d_Mo_ownCall_246 rfl (lv_at hl 4 rfl) ?_
        have hkf := hkp.2.1; unfold KpF at hkf
        refine lv_aload_n S.x S.b d_Mo_ownCall_247 rfl (lv_at hl 4 rfl) ?_
        refine px_get S k_Mpr hT hw 3 0 10 (v := .int (qf379 10)) rfl rfl rfl (by decide) m11_1 d_Mo_ownCall_248 ?_
        refine lv_iload S.x S.b d_Mo_ownCall_251 (lv_at hl 0 rfl) ?_
        refine lv_isub S.x S.b d_Mo_ownCall_253 ?_
        have lr397 := Int32.le_toInt (qf379 10)
        have ur397 := Int32.toInt_lt (qf379 10)
        refine lv_topi (fun z398 ez398 => ?_)
        have tz398 : z398.toInt = ((qf379 10).toInt - (1 : Int) + 2147483648) % 4294967296 - 2147483648 := by rw [ez398]; exact i_sub (qf379 10) 1
        have lz398 := Int32.le_toInt z398
        have uz398 := Int32.toInt_lt z398
        try replace tz398 : z398.toInt = (qf379 10).toInt - (1 : Int) := by omega
        refine px_put S k_Mpr hT hw 3 0 10 rfl rfl (by decide) m11_1 rfl rfl rfl (Nat.le_of_ble_eq_true rfl) d_Mo_ownCall_254 (w' := wd_Mpr cs (hq p0.toNatClampNeg) (qr p0.toNatClampNeg) (fun _ => QO p0.toNatClampNeg) (upd qf379 10 z398) (QA p0.toNatClampNeg) (fun _ _ => none)) (ps' := [wd_Mo cs mo mr (fun _ => none) (upd mf 9 0) md (gMo PG hq), fm 8 (fPg cs PG), fo 13 (fPr cs hq qr QO QF QA) p0.toNatClampNeg, wd_Mpr cs (hq p0.toNatClampNeg) (qr p0.toNatClampNeg) (fun _ => QO p0.toNatClampNeg) (upd qf379 10 z398) (QA p0.toNatClampNeg) (fun _ _ => none)]) rfl rfl (fun H locs hw => ?_)
        refine lv_aload_n S.x S.b d_Mo_ownCall_257 rfl (lv_at hl 4 rfl) ?_
        refine lv_aload_n S.x S.b d_Mo_ownCall_258 rfl (lv_at hl 5 rfl) ?_
        refine px_get S k_Mo hT hw 0 0 9 (v := .int 0) rfl rfl rfl (by decide) m11_87 d_Mo_ownCall_259 ?_
        refine px_callv (pr := [wd_Mo cs mo mr (fun _ => none) (upd mf 9 0) md (gMo PG hq), fm 8 (fPg cs PG), fo 13 (fPr cs hq qr QO QF QA) p0.toNatClampNeg]) (px_runV (As := [.int 0]) (rest := []) S (c_mq_give l D cs (hq p0.toNatClampNeg) (qr p0.toNatClampNeg) (fun _ _ => none) (fun _ => QO p0.toNatClampNeg) (upd qf379 10 z398) (QA p0.toNatClampNeg) 0  (show 0 ≤ z398.toInt from by first | exact oz_89fa327c54 tz398 e388 nc5 | omega) (show z398.toInt < 62500 from by first | exact oz_379d4e28b3 tz398 e388 hpn.2.1 | omega) _) hT (pr := [wd_Mo cs mo mr (fun _ => none) (upd mf 9 0) md (gMo PG hq), fm 8 (fPg cs PG), fo 13 (fPr cs hq qr QO QF QA) p0.toNatClampNeg]) (pcs := [wd_Mpr cs (hq p0.toNatClampNeg) (qr p0.toNatClampNeg) (fun _ => QO p0.toNatClampNeg) (upd qf379 10 z398) (QA p0.toNatClampNeg) (fun _ _ => none)]) hw px_X.tt (px_recv hT hw 3 0 rfl rfl rfl) m13_161 m14_111 m13_159 m13_160 m1_22 q_Mpr_give ⟨Nat.le_of_ble_eq_true rfl, Nat.le_of_ble_eq_true rfl⟩ hl.1 rfl (Nat.le_of_ble_eq_true rfl) d_Mo_ownCall_262 ⟨Nat.le_of_ble_eq_true rfl, Nat.le_of_ble_eq_true rfl⟩) hw hA (fun p403 H locs hp403 hw => ?_)
        obtain ⟨qf401, qa402, rfl, e405, e406, e407, e408, e409, e410, e411, e412, e413, e414, e415, e416, e417, e418, e419, e420⟩ := hp403
        have e405 : (qf401 10).toInt = z398.toInt + 1 := e405
        have e406 : (qf401 1).toInt = (qf379 1).toInt := e406
        have e407 : (qf401 2).toInt = (qf379 2).toInt := e407
        have e408 : (qf401 3).toInt = (qf379 3).toInt := e408
        have e409 : (qf401 4).toInt = (qf379 4).toInt := e409
        have e410 : (qf401 5).toInt = (qf379 5).toInt := e410
        have e411 : (qf401 6).toInt = (qf379 6).toInt := e411
        have e412 : (qf401 7).toInt = (qf379 7).toInt := e412
        have e413 : (qf401 11).toInt = (qf379 11).toInt := e413
        have e414 : (qf401 12).toInt = (qf379 12).toInt := e414
        have e415 : (qf401 13).toInt = (qf379 13).toInt := e415
        have e416 : (qf401 14).toInt = (qf379 14).toInt := e416
        have e417 : (qf401 21).toInt = (qf379 21).toInt := e417
        have e418 : (qf401 23).toInt = (qf379 23).toInt := e418
        have e419 : (qf401 24).toInt = (qf379 24).toInt := e419
        have e420 : NuU (QA p0.toNatClampNeg) qa402 9 z398.toInt (0 : Int32) := e420
        skip
        have hw : pw D A s.heap H locs [wd_Mo cs mo mr (fun _ => none) (upd mf 9 0) md (gMo PG hq), fm 8 (fPg cs PG), fo 13 (fPr cs hq qr QO QF QA) p0.toNatClampNeg, wd_Mpr cs (hq p0.toNatClampNeg) (qr p0.toNatClampNeg) (fun _ => QO p0.toNatClampNeg) qf401 qa402 (fun _ _ => none)] := hw
        refine lv_iload S.x S.b d_Mo_ownCall_265 (lv_at hl 1 rfl) ?_
        have hw := fpr_in (pr := [wd_Mo cs mo mr (fun _ => none) (upd mf 9 0) md (gMo PG hq), fm 8 (fPg cs PG)]) hw hi1
        obtain ⟨QO421, hu_QO421⟩ : ∃ y : Nat → Option Nat, y = va_up QO p0.toNatClampNeg ((fun _ => QO p0.toNatClampNeg) 0) := ⟨_, rfl⟩
        obtain ⟨QF422, hu_QF422⟩ : ∃ y : Nat → Nat → Int32, y = va_up QF p0.toNatClampNeg qf401 := ⟨_, rfl⟩
        obtain ⟨QA423, hu_QA423⟩ : ∃ y : Nat → Nat → Nat → Int32, y = va_up QA p0.toNatClampNeg qa402 := ⟨_, rfl⟩
        have hw : pw D A s.heap _ _ [wd_Mo cs mo mr (fun _ => none) (upd mf 9 0) md (gMo PG hq), fm 8 (fPg cs PG), fm 13 (fPr cs hq qr QO421 QF422 QA423)] := (by rw [hu_QO421, hu_QF422, hu_QA423]; exact hw)
        have hpx : PrX PG RR QO421 QF422 QA423 p0.toNatClampNeg := (by rw [hu_QO421, hu_QF422, hu_QA423]; exact PrX.up (hpr.px hi1) (show (0 ≤ (qf401 1).toInt ∧ (qf401 1).toInt ≤ 1) ∧ (0 ≤ (qf401 21).toInt ∧ (qf401 21).toInt ≤ 4) ∧ (0 ≤ (qf401 23).toInt ∧ (qf401 23).toInt ≤ 4) ∧ (0 ≤ (qf401 24).toInt ∧ (qf401 24).toInt ≤ 1000000) ∧ (0 ≤ (qf401 6).toInt ∧ (qf401 6).toInt ≤ 3) ∧ (0 ≤ (qf401 7).toInt ∧ (qf401 7).toInt ≤ 1) from by omega) (show (qf401 1).toInt = (QF p0.toNatClampNeg 1).toInt from by first | exact oz_1687f4cc65 e383 e406 | omega) (show (QF p0.toNatClampNeg 6).toInt ≤ (qf401 6).toInt from by first | exact oz_d01699e821 e386 e411 | omega))
        have hpd : PdT (PG j9) (RR p0.toNatClampNeg) (QF422 p0.toNatClampNeg) (QA423 p0.toNatClampNeg) := (by rw [hu_QF422, hu_QA423, va_up_s, va_up_s]; exact PoT.ans hpo (show (qf401 4).toInt = (QF p0.toNatClampNeg 4).toInt ∧ (qf401 5).toInt = (QF p0.toNatClampNeg 5).toInt ∧ (qf401 11).toInt = (QF p0.toNatClampNeg 11).toInt ∧ (qf401 12).toInt = (QF p0.toNatClampNeg 12).toInt ∧ (qf401 13).toInt = (QF p0.toNatClampNeg 13).toInt ∧ (qf401 14).toInt = (QF p0.toNatClampNeg 14).toInt from by first | exact oz_e3309c85a3 e384 e409 e385 e410 e389 e413 e390 e414 e391 e415 e392 e416 | omega) (show (qf401 10).toInt = (QF p0.toNatClampNeg 10).toInt - ((oslots p1.toInt).length : Int) + 1 from by omega) (show (qf401 24).toInt = (QF p0.toNatClampNeg 24).toInt ∨ (p1.toInt = 1 ∧ (qf401 24).toInt = (QF p0.toNatClampNeg 24).toInt + 1) from by omega) (fun i9 q9 => absurd (by rw [hkp.2.2 8 (by decide) (by decide)]) q9) (fun k9 a9 b9 c9 d9 => hkp.2.2 k9 b9 c9) (show NuU _ _ 9 ((QF p0.toNatClampNeg 10).toInt - ((oslots p1.toInt).length : Int)) _ from (by have q8 := e420; rw [show (z398.toInt) = (QF p0.toNatClampNeg 10).toInt - ((oslots p1.toInt).length : Int) by omega] at q8; exact q8)))
        have hko : KpO QO QF QO421 QF422 p0.toNatClampNeg := (by rw [hu_QO421, hu_QF422]; refine ⟨by rw [va_up_s]; first | done | exact hkp.1, ?_⟩; rw [va_up_s]; exact (show (qf401 1).toInt = (QF p0.toNatClampNeg 1).toInt ∧ (qf401 7).toInt = (QF p0.toNatClampNeg 7).toInt ∧ (qf401 11).toInt = (QF p0.toNatClampNeg 11).toInt from by first | exact oz_c24f474a2b e383 e406 e387 e412 e389 e413 | omega))
        have hw : pw D A s.heap _ _ [wd_Mo cs mo mr (fun _ => none) (upd mf 9 0) md (gMo PG hq), fm 13 (fPr cs hq qr QO421 QF422 QA423), fm 8 (fPg cs PG)] := hw.sub [0, 2, 1] rfl rfl
        exact px_iret (v := 1) S hr rfl hlk hAe hw (Nat.le_of_ble_eq_true rfl) (Nat.le_of_ble_eq_true rfl) (⟨(upd mf 9 0), md, QO421, QF422, QA423, rfl, (show 0 ≤ (1 : Int) from by first | exact oz_19c3a41681 | omega), (show (1 : Int) ≤ 1 from by first | exact oz_f9181dc4bb | omega), (show OwQ (1 : Int) (PrA PG RR QO421 QF422 QA423) (PrX PG RR QO421 QF422 QA423 p0.toNatClampNeg ∧ PdT (PG j9) (RR p0.toNatClampNeg) (QF422 p0.toNatClampNeg) (QA423 p0.toNatClampNeg)) from (Or.inr ⟨by omega, hpx, hpd⟩)), (show KpO QO QF QO421 QF422 p0.toNatClampNeg from hko), (show (mf 0).toInt = (mf 0).toInt from rfl), (show (mf 2).toInt = (mf 2).toInt from rfl), (show (mf 3).toInt = (mf 3).toInt from rfl), (show (mf 7).toInt = (mf 7).toInt from rfl), (show (mf 8).toInt = (mf 8).toInt from rfl), (show (mf 10).toInt = (mf 10).toInt from rfl), (show Md1 md md from hmdq)⟩) d_Mo_ownCall_267
    · refine List.forall_mem_cons.mpr ⟨fun c424 => ?_, List.forall_mem_cons.mpr ⟨fun c424 => ?_, List.forall_mem_cons.mpr ⟨fun c424 => ?_, List.forall_mem_cons.mpr ⟨fun c424 => ?_, List.forall_mem_cons.mpr ⟨fun c424 => ?_, List.forall_mem_cons.mpr ⟨fun c424 => ?_, List.forall_mem_cons.mpr ⟨fun c424 => ?_, List.forall_mem_cons.mpr ⟨fun c424 => ?_, fun _ h => absurd h List.not_mem_nil⟩⟩⟩⟩⟩⟩⟩⟩
      · simp only [List.mem_cons, List.not_mem_nil, or_false] at c424
        refine lv_aload_n S.x S.b d_Mo_ownCall_108 rfl (lv_at hl 5 rfl) ?_
        refine lv_iload S.x S.b d_Mo_ownCall_109 (lv_at hl 3 rfl) ?_
        refine px_put S k_Mo hT hw 0 0 9 rfl rfl (by decide) m11_87 rfl rfl rfl (Nat.le_of_ble_eq_true rfl) d_Mo_ownCall_111 (w' := wd_Mo cs mo mr (fun _ => none) (upd mf 9 z4) md (gMo PG hq)) (ps' := [wd_Mo cs mo mr (fun _ => none) (upd mf 9 z4) md (gMo PG hq), fm 8 (fPg cs PG), fo 13 (fPr cs hq qr QO QF QA) p0.toNatClampNeg, wd_Mpr cs (hq p0.toNatClampNeg) (qr p0.toNatClampNeg) (fun _ => QO p0.toNatClampNeg) (QF p0.toNatClampNeg) (QA p0.toNatClampNeg) (fun _ _ => none)]) rfl rfl (fun H locs hw => ?_)
        refine lv_iconst (v := 2) S.x S.b d_Mo_ownCall_114 (by decide) ?_
        refine lv_istore (lv' := [(7, .int 2), (6, .int 1), (5, .int z376), (4, .int z4), (3, .ref (hq p0.toNatClampNeg)), (0, .ref mo), (1, .int p0), (2, .int p1)]) S.x S.b d_Mo_ownCall_115 hl (by decide) rfl (fun ls hl => ?_)
        refine lv_goto (tgt := 241) S.x S.b d_Mo_ownCall_117 (by decide) ?_
        refine lv_iload S.x S.b d_Mo_ownCall_241 (lv_at hl 1 rfl) ?_
        refine lv_if_eq (tgt := 265) S.x S.b d_Mo_ownCall_243 (by decide) (fun c425 => ?_) (fun c425 => ?_)
        · exact absurd c425 (by decide)
        ·
          refine lv_aload_n S.x S.b d_Mo_ownCall_246 rfl (lv_at hl 4 rfl) ?_
          have hkf := hkp.2.1; unfold KpF at hkf
          refine lv_aload_n S.x S.b d_Mo_ownCall_247 rfl (lv_at hl 4 rfl) ?_
          refine px_get S k_Mpr hT hw 3 0 10 (v := .int ((QF p0.toNatClampNeg) 10)) rfl rfl rfl (by decide) m11_1 d_Mo_ownCall_248 ?_
          refine lv_iload S.x S.b d_Mo_ownCall_251 (lv_at hl 0 rfl) ?_
          refine lv_isub S.x S.b d_Mo_ownCall_253 ?_
          have lr426 := Int32.le_toInt ((QF p0.toNatClampNeg) 10)
          have ur426 := Int32.toInt_lt ((QF p0.toNatClampNeg) 10)
          refine lv_topi (fun z427 ez427 => ?_)
          have tz427 : z427.toInt = (((QF p0.toNatClampNeg) 10).toInt - (2 : Int) + 2147483648) % 4294967296 - 2147483648 := by rw [ez427]; exact i_sub ((QF p0.toNatClampNeg) 10) 2
          have lz427 := Int32.le_toInt z427
          have uz427 := Int32.toInt_lt z427
          try replace tz427 : z427.toInt = ((QF p0.toNatClampNeg) 10).toInt - (2 : Int) := by omega
          refine px_put S k_Mpr hT hw 3 0 10 rfl rfl (by decide) m11_1 rfl rfl rfl (Nat.le_of_ble_eq_true rfl) d_Mo_ownCall_254 (w' := wd_Mpr cs (hq p0.toNatClampNeg) (qr p0.toNatClampNeg) (fun _ => QO p0.toNatClampNeg) (upd (QF p0.toNatClampNeg) 10 z427) (QA p0.toNatClampNeg) (fun _ _ => none)) (ps' := [wd_Mo cs mo mr (fun _ => none) (upd mf 9 z4) md (gMo PG hq), fm 8 (fPg cs PG), fo 13 (fPr cs hq qr QO QF QA) p0.toNatClampNeg, wd_Mpr cs (hq p0.toNatClampNeg) (qr p0.toNatClampNeg) (fun _ => QO p0.toNatClampNeg) (upd (QF p0.toNatClampNeg) 10 z427) (QA p0.toNatClampNeg) (fun _ _ => none)]) rfl rfl (fun H locs hw => ?_)
          refine lv_aload_n S.x S.b d_Mo_ownCall_257 rfl (lv_at hl 4 rfl) ?_
          refine lv_aload_n S.x S.b d_Mo_ownCall_258 rfl (lv_at hl 5 rfl) ?_
          refine px_get S k_Mo hT hw 0 0 9 (v := .int z4) rfl rfl rfl (by decide) m11_87 d_Mo_ownCall_259 ?_
          refine px_callv (pr := [wd_Mo cs mo mr (fun _ => none) (upd mf 9 z4) md (gMo PG hq), fm 8 (fPg cs PG), fo 13 (fPr cs hq qr QO QF QA) p0.toNatClampNeg]) (px_runV (As := [.int z4]) (rest := []) S (c_mq_give l D cs (hq p0.toNatClampNeg) (qr p0.toNatClampNeg) (fun _ _ => none) (fun _ => QO p0.toNatClampNeg) (upd (QF p0.toNatClampNeg) 10 z427) (QA p0.toNatClampNeg) z4  (show 0 ≤ z427.toInt from by first | exact oz_032273fb6e tz427 nc5 | omega) (show z427.toInt < 62500 from by first | exact oz_7c2ced9dd1 tz427 hpn.2.1 | omega) _) hT (pr := [wd_Mo cs mo mr (fun _ => none) (upd mf 9 z4) md (gMo PG hq), fm 8 (fPg cs PG), fo 13 (fPr cs hq qr QO QF QA) p0.toNatClampNeg]) (pcs := [wd_Mpr cs (hq p0.toNatClampNeg) (qr p0.toNatClampNeg) (fun _ => QO p0.toNatClampNeg) (upd (QF p0.toNatClampNeg) 10 z427) (QA p0.toNatClampNeg) (fun _ _ => none)]) hw px_X.tt (px_recv hT hw 3 0 rfl rfl rfl) m13_161 m14_111 m13_159 m13_160 m1_22 q_Mpr_give ⟨Nat.le_of_ble_eq_true rfl, Nat.le_of_ble_eq_true rfl⟩ hl.1 rfl (Nat.le_of_ble_eq_true rfl) d_Mo_ownCall_262 ⟨Nat.le_of_ble_eq_true rfl, Nat.le_of_ble_eq_true rfl⟩) hw hA (fun p432 H locs hp432 hw => ?_)
          obtain ⟨qf430, qa431, rfl, e434, e435, e436, e437, e438, e439, e440, e441, e442, e443, e444, e445, e446, e447, e448, e449⟩ := hp432
          have e434 : (qf430 10).toInt = z427.toInt + 1 := e434
          have e435 : (qf430 1).toInt = ((QF p0.toNatClampNeg) 1).toInt := e435
          have e436 : (qf430 2).toInt = ((QF p0.toNatClampNeg) 2).toInt := e436
          have e437 : (qf430 3).toInt = ((QF p0.toNatClampNeg) 3).toInt := e437
          have e438 : (qf430 4).toInt = ((QF p0.toNatClampNeg) 4).toInt := e438
          have e439 : (qf430 5).toInt = ((QF p0.toNatClampNeg) 5).toInt := e439
          have e440 : (qf430 6).toInt = ((QF p0.toNatClampNeg) 6).toInt := e440
          have e441 : (qf430 7).toInt = ((QF p0.toNatClampNeg) 7).toInt := e441
          have e442 : (qf430 11).toInt = ((QF p0.toNatClampNeg) 11).toInt := e442
          have e443 : (qf430 12).toInt = ((QF p0.toNatClampNeg) 12).toInt := e443
          have e444 : (qf430 13).toInt = ((QF p0.toNatClampNeg) 13).toInt := e444
          have e445 : (qf430 14).toInt = ((QF p0.toNatClampNeg) 14).toInt := e445
          have e446 : (qf430 21).toInt = ((QF p0.toNatClampNeg) 21).toInt := e446
          have e447 : (qf430 23).toInt = ((QF p0.toNatClampNeg) 23).toInt := e447
          have e448 : (qf430 24).toInt = ((QF p0.toNatClampNeg) 24).toInt := e448
          have e449 : NuU (QA p0.toNatClampNeg) qa431 9 z427.toInt z4 := e449
          skip
          have hw : pw D A s.heap H locs [wd_Mo cs mo mr (fun _ => none) (upd mf 9 z4) md (gMo PG hq), fm 8 (fPg cs PG), fo 13 (fPr cs hq qr QO QF QA) p0.toNatClampNeg, wd_Mpr cs (hq p0.toNatClampNeg) (qr p0.toNatClampNeg) (fun _ => QO p0.toNatClampNeg) qf430 qa431 (fun _ _ => none)] := hw
          refine lv_iload S.x S.b d_Mo_ownCall_265 (lv_at hl 1 rfl) ?_
          have hw := fpr_in (pr := [wd_Mo cs mo mr (fun _ => none) (upd mf 9 z4) md (gMo PG hq), fm 8 (fPg cs PG)]) hw hi1
          obtain ⟨QO450, hu_QO450⟩ : ∃ y : Nat → Option Nat, y = va_up QO p0.toNatClampNeg ((fun _ => QO p0.toNatClampNeg) 0) := ⟨_, rfl⟩
          obtain ⟨QF451, hu_QF451⟩ : ∃ y : Nat → Nat → Int32, y = va_up QF p0.toNatClampNeg qf430 := ⟨_, rfl⟩
          obtain ⟨QA452, hu_QA452⟩ : ∃ y : Nat → Nat → Nat → Int32, y = va_up QA p0.toNatClampNeg qa431 := ⟨_, rfl⟩
          have hw : pw D A s.heap _ _ [wd_Mo cs mo mr (fun _ => none) (upd mf 9 z4) md (gMo PG hq), fm 8 (fPg cs PG), fm 13 (fPr cs hq qr QO450 QF451 QA452)] := (by rw [hu_QO450, hu_QF451, hu_QA452]; exact hw)
          have hpx : PrX PG RR QO450 QF451 QA452 p0.toNatClampNeg := (by rw [hu_QO450, hu_QF451, hu_QA452]; exact PrX.up (hpr.px hi1) (show (0 ≤ (qf430 1).toInt ∧ (qf430 1).toInt ≤ 1) ∧ (0 ≤ (qf430 21).toInt ∧ (qf430 21).toInt ≤ 4) ∧ (0 ≤ (qf430 23).toInt ∧ (qf430 23).toInt ≤ 4) ∧ (0 ≤ (qf430 24).toInt ∧ (qf430 24).toInt ≤ 1000000) ∧ (0 ≤ (qf430 6).toInt ∧ (qf430 6).toInt ≤ 3) ∧ (0 ≤ (qf430 7).toInt ∧ (qf430 7).toInt ≤ 1) from by omega) (show (qf430 1).toInt = (QF p0.toNatClampNeg 1).toInt from by first | exact oz_1811ac7fe4 e435 | omega) (show (QF p0.toNatClampNeg 6).toInt ≤ (qf430 6).toInt from by first | exact oz_f9b42d1b56 e440 | omega))
          have hpd : PdT (PG j9) (RR p0.toNatClampNeg) (QF451 p0.toNatClampNeg) (QA452 p0.toNatClampNeg) := (by rw [hu_QF451, hu_QA452, va_up_s, va_up_s]; exact PoT.ans hpo (show (qf430 4).toInt = (QF p0.toNatClampNeg 4).toInt ∧ (qf430 5).toInt = (QF p0.toNatClampNeg 5).toInt ∧ (qf430 11).toInt = (QF p0.toNatClampNeg 11).toInt ∧ (qf430 12).toInt = (QF p0.toNatClampNeg 12).toInt ∧ (qf430 13).toInt = (QF p0.toNatClampNeg 13).toInt ∧ (qf430 14).toInt = (QF p0.toNatClampNeg 14).toInt from by first | exact oz_82ab602a70 e438 e439 e442 e443 e444 e445 | omega) (show (qf430 10).toInt = (QF p0.toNatClampNeg 10).toInt - ((oslots p1.toInt).length : Int) + 1 from by omega) (show (qf430 24).toInt = (QF p0.toNatClampNeg 24).toInt ∨ (p1.toInt = 1 ∧ (qf430 24).toInt = (QF p0.toNatClampNeg 24).toInt + 1) from by omega) (fun i9 q9 => absurd (by rw [hkp.2.2 8 (by decide) (by decide)]) q9) (fun k9 a9 b9 c9 d9 => hkp.2.2 k9 b9 c9) (show NuU _ _ 9 ((QF p0.toNatClampNeg 10).toInt - ((oslots p1.toInt).length : Int)) _ from (by have q8 := e449; rw [show (z427.toInt) = (QF p0.toNatClampNeg 10).toInt - ((oslots p1.toInt).length : Int) by omega] at q8; exact q8)))
          have hko : KpO QO QF QO450 QF451 p0.toNatClampNeg := (by rw [hu_QO450, hu_QF451]; refine ⟨by rw [va_up_s]; first | done | exact hkp.1, ?_⟩; rw [va_up_s]; exact (show (qf430 1).toInt = (QF p0.toNatClampNeg 1).toInt ∧ (qf430 7).toInt = (QF p0.toNatClampNeg 7).toInt ∧ (qf430 11).toInt = (QF p0.toNatClampNeg 11).toInt from by first | exact oz_ca5abb16c6 e435 e441 e442 | omega))
          have hw : pw D A s.heap _ _ [wd_Mo cs mo mr (fun _ => none) (upd mf 9 z4) md (gMo PG hq), fm 13 (fPr cs hq qr QO450 QF451 QA452), fm 8 (fPg cs PG)] := hw.sub [0, 2, 1] rfl rfl
          exact px_iret (v := 1) S hr rfl hlk hAe hw (Nat.le_of_ble_eq_true rfl) (Nat.le_of_ble_eq_true rfl) (⟨(upd mf 9 z4), md, QO450, QF451, QA452, rfl, (show 0 ≤ (1 : Int) from by first | exact oz_19c3a41681 | omega), (show (1 : Int) ≤ 1 from by first | exact oz_f9181dc4bb | omega), (show OwQ (1 : Int) (PrA PG RR QO450 QF451 QA452) (PrX PG RR QO450 QF451 QA452 p0.toNatClampNeg ∧ PdT (PG j9) (RR p0.toNatClampNeg) (QF451 p0.toNatClampNeg) (QA452 p0.toNatClampNeg)) from (Or.inr ⟨by omega, hpx, hpd⟩)), (show KpO QO QF QO450 QF451 p0.toNatClampNeg from hko), (show (mf 0).toInt = (mf 0).toInt from rfl), (show (mf 2).toInt = (mf 2).toInt from rfl), (show (mf 3).toInt = (mf 3).toInt from rfl), (show (mf 7).toInt = (mf 7).toInt from rfl), (show (mf 8).toInt = (mf 8).toInt from rfl), (show (mf 10).toInt = (mf 10).toInt from rfl), (show Md1 md md from hmdq)⟩) d_Mo_ownCall_267
      · simp only [List.mem_cons, List.not_mem_nil, or_false] at c424
        refine lv_aload_n S.x S.b d_Mo_ownCall_120 rfl (lv_at hl 4 rfl) ?_
        refine lv_iload S.x S.b d_Mo_ownCall_121 (lv_at hl 3 rfl) ?_
        refine px_callv (pr := [wd_Mo cs mo mr (fun _ => none) (upd mf 9 0) md (gMo PG hq), fm 8 (fPg cs PG), fo 13 (fPr cs hq qr QO QF QA) p0.toNatClampNeg]) (px_runV (As := [.int z4]) (rest := []) S (c_mq_write l D cs (hq p0.toNatClampNeg) (qr p0.toNatClampNeg) (fun _ _ => none) (fun _ => QO p0.toNatClampNeg) (QF p0.toNatClampNeg) (QA p0.toNatClampNeg) z4  (show 0 ≤ ((QF p0.toNatClampNeg) 24).toInt from by omega) (show ((QF p0.toNatClampNeg) 24).toInt ≤ 1000000 from by first | exact oz_9812ba30bf hpn.2.2.2.2.2.2 hpn.2.2.2.2.1 | omega) _) hT (pr := [wd_Mo cs mo mr (fun _ => none) (upd mf 9 0) md (gMo PG hq), fm 8 (fPg cs PG), fo 13 (fPr cs hq qr QO QF QA) p0.toNatClampNeg]) (pcs := [wd_Mpr cs (hq p0.toNatClampNeg) (qr p0.toNatClampNeg) (fun _ => QO p0.toNatClampNeg) (QF p0.toNatClampNeg) (QA p0.toNatClampNeg) (fun _ _ => none)]) hw px_X.tt (px_recv hT hw 3 0 rfl rfl rfl) m14_39 m14_36 m14_37 m14_38 m1_22 q_Mpr_write ⟨Nat.le_of_ble_eq_true rfl, Nat.le_of_ble_eq_true rfl⟩ hl.1 rfl (Nat.le_of_ble_eq_true rfl) d_Mo_ownCall_123 ⟨Nat.le_of_ble_eq_true rfl, Nat.le_of_ble_eq_true rfl⟩) hw hA (fun p457 H locs hp457 hw => ?_)
        obtain ⟨qf455, qa456, rfl, e459, e460, e461, e462, e463, e464, e465, e466, e467, e468, e469, e470, e471, e472, e473, e474⟩ := hp457
        have e459 : (qf455 24).toInt = ((QF p0.toNatClampNeg) 24).toInt + 1 := e459
        have e460 : (qf455 1).toInt = ((QF p0.toNatClampNeg) 1).toInt := e460
        have e461 : (qf455 2).toInt = ((QF p0.toNatClampNeg) 2).toInt := e461
        have e462 : (qf455 3).toInt = ((QF p0.toNatClampNeg) 3).toInt := e462
        have e463 : (qf455 4).toInt = ((QF p0.toNatClampNeg) 4).toInt := e463
        have e464 : (qf455 5).toInt = ((QF p0.toNatClampNeg) 5).toInt := e464
        have e465 : (qf455 6).toInt = ((QF p0.toNatClampNeg) 6).toInt := e465
        have e466 : (qf455 7).toInt = ((QF p0.toNatClampNeg) 7).toInt := e466
        have e467 : (qf455 10).toInt = ((QF p0.toNatClampNeg) 10).toInt := e467
        have e468 : (qf455 11).toInt = ((QF p0.toNatClampNeg) 11).toInt := e468
        have e469 : (qf455 12).toInt = ((QF p0.toNatClampNeg) 12).toInt := e469
        have e470 : (qf455 13).toInt = ((QF p0.toNatClampNeg) 13).toInt := e470
        have e471 : (qf455 14).toInt = ((QF p0.toNatClampNeg) 14).toInt := e471
        have e472 : (qf455 21).toInt = ((QF p0.toNatClampNeg) 21).toInt := e472
        have e473 : (qf455 23).toInt = ((QF p0.toNatClampNeg) 23).toInt := e473
        have e474 : ∀ k9 : Nat, k9 ≠ 25 → qa456 k9 = (QA p0.toNatClampNeg) k9 := e474
        have haw := e474
        have hw : pw D A s.heap H locs [wd_Mo cs mo mr (fun _ => none) (upd mf 9 0) md (gMo PG hq), fm 8 (fPg cs PG), fo 13 (fPr cs hq qr QO QF QA) p0.toNatClampNeg, wd_Mpr cs (hq p0.toNatClampNeg) (qr p0.toNatClampNeg) (fun _ => QO p0.toNatClampNeg) qf455 qa456 (fun _ _ => none)] := hw
        refine lv_goto (tgt := 241) S.x S.b d_Mo_ownCall_126 (by decide) ?_
        refine lv_iload S.x S.b d_Mo_ownCall_241 (lv_at hl 1 rfl) ?_
        refine lv_if_eq (tgt := 265) S.x S.b d_Mo_ownCall_243 (by decide) (fun c475 => ?_) (fun c475 => ?_)
        · exact absurd c475 (by decide)
        ·
          refine lv_aload_n S.x S.b d_Mo_ownCall_246 rfl (lv_at hl 4 rfl) ?_
          have hkf := hkp.2.1; unfold KpF at hkf
          refine lv_aload_n S.x S.b d_Mo_ownCall_247 rfl (lv_at hl 4 rfl) ?_
          refine px_get S k_Mpr hT hw 3 0 10 (v := .int (qf455 10)) rfl rfl rfl (by decide) m11_1 d_Mo_ownCall_248 ?_
          refine lv_iload S.x S.b d_Mo_ownCall_251 (lv_at hl 0 rfl) ?_
          refine lv_isub S.x S.b d_Mo_ownCall_253 ?_
          have lr476 := Int32.le_toInt (qf455 10)
          have ur476 := Int32.toInt_lt (qf455 10)
          refine lv_topi (fun z477 ez477 => ?_)
          have tz477 : z477.toInt = ((qf455 10).toInt - (1 : Int) + 2147483648) % 4294967296 - 2147483648 := by rw [ez477]; exact i_sub (qf455 10) 1
          have lz477 := Int32.le_toInt z477
          have uz477 := Int32.toInt_lt z477
          try replace tz477 : z477.toInt = (qf455 10).toInt - (1 : Int) := by omega
          refine px_put S k_Mpr hT hw 3 0 10 rfl rfl (by decide) m11_1 rfl rfl rfl (Nat.le_of_ble_eq_true rfl) d_Mo_ownCall_254 (w' := wd_Mpr cs (hq p0.toNatClampNeg) (qr p0.toNatClampNeg) (fun _ => QO p0.toNatClampNeg) (upd qf455 10 z477) qa456 (fun _ _ => none)) (ps' := [wd_Mo cs mo mr (fun _ => none) (upd mf 9 0) md (gMo PG hq), fm 8 (fPg cs PG), fo 13 (fPr cs hq qr QO QF QA) p0.toNatClampNeg, wd_Mpr cs (hq p0.toNatClampNeg) (qr p0.toNatClampNeg) (fun _ => QO p0.toNatClampNeg) (upd qf455 10 z477) qa456 (fun _ _ => none)]) rfl rfl (fun H locs hw => ?_)
          refine lv_aload_n S.x S.b d_Mo_ownCall_257 rfl (lv_at hl 4 rfl) ?_
          refine lv_aload_n S.x S.b d_Mo_ownCall_258 rfl (lv_at hl 5 rfl) ?_
          refine px_get S k_Mo hT hw 0 0 9 (v := .int 0) rfl rfl rfl (by decide) m11_87 d_Mo_ownCall_259 ?_
          refine px_callv (pr := [wd_Mo cs mo mr (fun _ => none) (upd mf 9 0) md (gMo PG hq), fm 8 (fPg cs PG), fo 13 (fPr cs hq qr QO QF QA) p0.toNatClampNeg]) (px_runV (As := [.int 0]) (rest := []) S (c_mq_give l D cs (hq p0.toNatClampNeg) (qr p0.toNatClampNeg) (fun _ _ => none) (fun _ => QO p0.toNatClampNeg) (upd qf455 10 z477) qa456 0  (show 0 ≤ z477.toInt from by first | exact oz_89fa327c54 tz477 e467 nc5 | omega) (show z477.toInt < 62500 from by first | exact oz_379d4e28b3 tz477 e467 hpn.2.1 | omega) _) hT (pr := [wd_Mo cs mo mr (fun _ => none) (upd mf 9 0) md (gMo PG hq), fm 8 (fPg cs PG), fo 13 (fPr cs hq qr QO QF QA) p0.toNatClampNeg]) (pcs := [wd_Mpr cs (hq p0.toNatClampNeg) (qr p0.toNatClampNeg) (fun _ => QO p0.toNatClampNeg) (upd qf455 10 z477) qa456 (fun _ _ => none)]) hw px_X.tt (px_recv hT hw 3 0 rfl rfl rfl) m13_161 m14_111 m13_159 m13_160 m1_22 q_Mpr_give ⟨Nat.le_of_ble_eq_true rfl, Nat.le_of_ble_eq_true rfl⟩ hl.1 rfl (Nat.le_of_ble_eq_true rfl) d_Mo_ownCall_262 ⟨Nat.le_of_ble_eq_true rfl, Nat.le_of_ble_eq_true rfl⟩) hw hA (fun p482 H locs hp482 hw => ?_)
          obtain ⟨qf480, qa481, rfl, e484, e485, e486, e487, e488, e489, e490, e491, e492, e493, e494, e495, e496, e497, e498, e499⟩ := hp482
          have e484 : (qf480 10).toInt = z477.toInt + 1 := e484
          have e485 : (qf480 1).toInt = (qf455 1).toInt := e485
          have e486 : (qf480 2).toInt = (qf455 2).toInt := e486
          have e487 : (qf480 3).toInt = (qf455 3).toInt := e487
          have e488 : (qf480 4).toInt = (qf455 4).toInt := e488
          have e489 : (qf480 5).toInt = (qf455 5).toInt := e489
          have e490 : (qf480 6).toInt = (qf455 6).toInt := e490
          have e491 : (qf480 7).toInt = (qf455 7).toInt := e491
          have e492 : (qf480 11).toInt = (qf455 11).toInt := e492
          have e493 : (qf480 12).toInt = (qf455 12).toInt := e493
          have e494 : (qf480 13).toInt = (qf455 13).toInt := e494
          have e495 : (qf480 14).toInt = (qf455 14).toInt := e495
          have e496 : (qf480 21).toInt = (qf455 21).toInt := e496
          have e497 : (qf480 23).toInt = (qf455 23).toInt := e497
          have e498 : (qf480 24).toInt = (qf455 24).toInt := e498
          have e499 : NuU qa456 qa481 9 z477.toInt (0 : Int32) := e499
          skip
          have hw : pw D A s.heap H locs [wd_Mo cs mo mr (fun _ => none) (upd mf 9 0) md (gMo PG hq), fm 8 (fPg cs PG), fo 13 (fPr cs hq qr QO QF QA) p0.toNatClampNeg, wd_Mpr cs (hq p0.toNatClampNeg) (qr p0.toNatClampNeg) (fun _ => QO p0.toNatClampNeg) qf480 qa481 (fun _ _ => none)] := hw
          refine lv_iload S.x S.b d_Mo_ownCall_265 (lv_at hl 1 rfl) ?_
          have hw := fpr_in (pr := [wd_Mo cs mo mr (fun _ => none) (upd mf 9 0) md (gMo PG hq), fm 8 (fPg cs PG)]) hw hi1
          obtain ⟨QO500, hu_QO500⟩ : ∃ y : Nat → Option Nat, y = va_up QO p0.toNatClampNeg ((fun _ => QO p0.toNatClampNeg) 0) := ⟨_, rfl⟩
          obtain ⟨QF501, hu_QF501⟩ : ∃ y : Nat → Nat → Int32, y = va_up QF p0.toNatClampNeg qf480 := ⟨_, rfl⟩
          obtain ⟨QA502, hu_QA502⟩ : ∃ y : Nat → Nat → Nat → Int32, y = va_up QA p0.toNatClampNeg qa481 := ⟨_, rfl⟩
          have hw : pw D A s.heap _ _ [wd_Mo cs mo mr (fun _ => none) (upd mf 9 0) md (gMo PG hq), fm 8 (fPg cs PG), fm 13 (fPr cs hq qr QO500 QF501 QA502)] := (by rw [hu_QO500, hu_QF501, hu_QA502]; exact hw)
          have hpx : PrX PG RR QO500 QF501 QA502 p0.toNatClampNeg := (by rw [hu_QO500, hu_QF501, hu_QA502]; exact PrX.up (hpr.px hi1) (show (0 ≤ (qf480 1).toInt ∧ (qf480 1).toInt ≤ 1) ∧ (0 ≤ (qf480 21).toInt ∧ (qf480 21).toInt ≤ 4) ∧ (0 ≤ (qf480 23).toInt ∧ (qf480 23).toInt ≤ 4) ∧ (0 ≤ (qf480 24).toInt ∧ (qf480 24).toInt ≤ 1000000) ∧ (0 ≤ (qf480 6).toInt ∧ (qf480 6).toInt ≤ 3) ∧ (0 ≤ (qf480 7).toInt ∧ (qf480 7).toInt ≤ 1) from by omega) (show (qf480 1).toInt = (QF p0.toNatClampNeg 1).toInt from by first | exact oz_1687f4cc65 e460 e485 | omega) (show (QF p0.toNatClampNeg 6).toInt ≤ (qf480 6).toInt from by first | exact oz_d01699e821 e465 e490 | omega))
          have hpd : PdT (PG j9) (RR p0.toNatClampNeg) (QF501 p0.toNatClampNeg) (QA502 p0.toNatClampNeg) := (by rw [hu_QF501, hu_QA502, va_up_s, va_up_s]; exact PoT.ans hpo (show (qf480 4).toInt = (QF p0.toNatClampNeg 4).toInt ∧ (qf480 5).toInt = (QF p0.toNatClampNeg 5).toInt ∧ (qf480 11).toInt = (QF p0.toNatClampNeg 11).toInt ∧ (qf480 12).toInt = (QF p0.toNatClampNeg 12).toInt ∧ (qf480 13).toInt = (QF p0.toNatClampNeg 13).toInt ∧ (qf480 14).toInt = (QF p0.toNatClampNeg 14).toInt from by first | exact oz_e3309c85a3 e463 e488 e464 e489 e468 e492 e469 e493 e470 e494 e471 e495 | omega) (show (qf480 10).toInt = (QF p0.toNatClampNeg 10).toInt - ((oslots p1.toInt).length : Int) + 1 from by omega) (show (qf480 24).toInt = (QF p0.toNatClampNeg 24).toInt ∨ (p1.toInt = 1 ∧ (qf480 24).toInt = (QF p0.toNatClampNeg 24).toInt + 1) from by omega) (fun i9 q9 => absurd (congrFun (haw 8 (by decide)) i9) q9) (fun k9 a9 b9 c9 d9 => haw k9 d9) (show NuU _ _ 9 ((QF p0.toNatClampNeg 10).toInt - ((oslots p1.toInt).length : Int)) _ from (by have q8 := e499; rw [show (z477.toInt) = (QF p0.toNatClampNeg 10).toInt - ((oslots p1.toInt).length : Int) by omega] at q8; exact q8)))
          have hko : KpO QO QF QO500 QF501 p0.toNatClampNeg := (by rw [hu_QO500, hu_QF501]; refine ⟨by rw [va_up_s]; first | done | exact hkp.1, ?_⟩; rw [va_up_s]; exact (show (qf480 1).toInt = (QF p0.toNatClampNeg 1).toInt ∧ (qf480 7).toInt = (QF p0.toNatClampNeg 7).toInt ∧ (qf480 11).toInt = (QF p0.toNatClampNeg 11).toInt from by first | exact oz_c24f474a2b e460 e485 e466 e491 e468 e492 | omega))
          have hw : pw D A s.heap _ _ [wd_Mo cs mo mr (fun _ => none) (upd mf 9 0) md (gMo PG hq), fm 13 (fPr cs hq qr QO500 QF501 QA502), fm 8 (fPg cs PG)] := hw.sub [0, 2, 1] rfl rfl
          exact px_iret (v := 1) S hr rfl hlk hAe hw (Nat.le_of_ble_eq_true rfl) (Nat.le_of_ble_eq_true rfl) (⟨(upd mf 9 0), md, QO500, QF501, QA502, rfl, (show 0 ≤ (1 : Int) from by first | exact oz_19c3a41681 | omega), (show (1 : Int) ≤ 1 from by first | exact oz_f9181dc4bb | omega), (show OwQ (1 : Int) (PrA PG RR QO500 QF501 QA502) (PrX PG RR QO500 QF501 QA502 p0.toNatClampNeg ∧ PdT (PG j9) (RR p0.toNatClampNeg) (QF501 p0.toNatClampNeg) (QA502 p0.toNatClampNeg)) from (Or.inr ⟨by omega, hpx, hpd⟩)), (show KpO QO QF QO500 QF501 p0.toNatClampNeg from hko), (show (mf 0).toInt = (mf 0).toInt from rfl), (show (mf 2).toInt = (mf 2).toInt from rfl), (show (mf 3).toInt = (mf 3).toInt from rfl), (show (mf 7).toInt = (mf 7).toInt from rfl), (show (mf 8).toInt = (mf 8).toInt from rfl), (show (mf 10).toInt = (mf 10).toInt from rfl), (show Md1 md md from hmdq)⟩) d_Mo_ownCall_267
      · simp only [List.mem_cons, List.not_mem_nil, or_false] at c424
        refine lv_aload_n S.x S.b d_Mo_ownCall_129 rfl (lv_at hl 5 rfl) ?_
        refine lv_iload_n S.x S.b d_Mo_ownCall_130 rfl (lv_at hl 6 rfl) ?_
        refine lv_iload S.x S.b d_Mo_ownCall_131 (lv_at hl 2 rfl) ?_
        refine lv_iload S.x S.b d_Mo_ownCall_133 (lv_at hl 3 rfl) ?_
        have hw : pw D A s.heap _ _ [wd_Mo cs mo mr (fun _ => none) (upd mf 9 0) md (gMo PG hq), fm 8 (fPg cs PG), fm 13 (fPr cs hq qr QO QF QA)] := fm_back (pr := [wd_Mo cs mo mr (fun _ => none) (upd mf 9 0) md (gMo PG hq), fm 8 (fPg cs PG)]) (T := fPr cs hq qr QO QF QA) hw hi1
        have hw : pw D A s.heap _ _ [wd_Mo cs mo mr (fun _ => none) (upd mf 9 0) md (gMo PG hq), fm 13 (fPr cs hq qr QO QF QA), fm 8 (fPg cs PG)] := hw.sub [0, 2, 1] rfl rfl
        refine px_calli (pr := []) (px_runV (As := [.int p0, .int z376, .int z4]) (rest := []) S (c_mo_sends l D cs RR mo mr (upd mf 9 0) md hq qr QO QF QA PG p0 z376 z4  (show 0 ≤ p0.toInt from by first | exact g0 | omega) (show p0.toInt < 13 from by first | exact g1 | omega) hpr hpg _) hT (pr := []) (pcs := [wd_Mo cs mo mr (fun _ => none) (upd mf 9 0) md (gMo PG hq), fm 13 (fPr cs hq qr QO QF QA), fm 8 (fPg cs PG)]) hw px_X.tt (px_recv hT hw 0 0 rfl rfl rfl) m14_43 m14_40 m14_42 ms_15_13 m1_20 q_Mo_sends ⟨Nat.le_of_ble_eq_true rfl, Nat.le_of_ble_eq_true rfl⟩ hl.1 rfl (Nat.le_of_ble_eq_true rfl) d_Mo_ownCall_135 ⟨Nat.le_of_ble_eq_true rfl, Nat.le_of_ble_eq_true rfl⟩) hw hA (fun v510 p509 H locs hp509 hw => ?_)
        obtain ⟨QO506, QF507, QA508, rfl, e511, e512, e513, e514⟩ := hp509
        have e511 : PrA PG RR QO506 QF507 QA508 := e511
        have hpr := e511
        have e512 : KpP QO QF QA QO506 QF507 QA508 p0.toNatClampNeg := e512
        have hkp := hkp.tr e512
        have e513 : 0 ≤ v510.toInt := e513
        have e514 : v510.toInt ≤ 1 := e514
        have hw : pw D A s.heap H locs [wd_Mo cs mo mr (fun _ => none) (upd mf 9 0) md (gMo PG hq), fm 13 (fPr cs hq qr QO506 QF507 QA508), fm 8 (fPg cs PG)] := hw
        have lv510 := Int32.le_toInt v510
        have uv510 := Int32.toInt_lt v510
        refine lv_istore (lv' := [(6, .int v510), (7, .int 1), (5, .int z376), (4, .int z4), (3, .ref (hq p0.toNatClampNeg)), (0, .ref mo), (1, .int p0), (2, .int p1)]) S.x S.b d_Mo_ownCall_138 hl (by decide) rfl (fun ls hl => ?_)
        refine lv_iconst (v := 2) S.x S.b d_Mo_ownCall_140 (by decide) ?_
        refine lv_istore (lv' := [(7, .int 2), (6, .int v510), (5, .int z376), (4, .int z4), (3, .ref (hq p0.toNatClampNeg)), (0, .ref mo), (1, .int p0), (2, .int p1)]) S.x S.b d_Mo_ownCall_141 hl (by decide) rfl (fun ls hl => ?_)
        refine lv_goto (tgt := 241) S.x S.b d_Mo_ownCall_143 (by decide) ?_
        refine lv_iload S.x S.b d_Mo_ownCall_241 (lv_at hl 1 rfl) ?_
        refine lv_if_eq (tgt := 265) S.x S.b d_Mo_ownCall_243 (by decide) (fun c515 => ?_) (fun c515 => ?_)
        · have nc515 : v510.toInt = (0 : Int) := (i_eq (x := v510) (y := 0)).mp c515
          refine lv_iload S.x S.b d_Mo_ownCall_265 (lv_at hl 1 rfl) ?_
          exact px_iret (v := v510) S hr (z_nar (by omega)) hlk hAe hw (Nat.le_of_ble_eq_true rfl) (Nat.le_of_ble_eq_true rfl) (⟨(upd mf 9 0), md, QO506, QF507, QA508, rfl, (show 0 ≤ v510.toInt from by first | exact e513 | omega), (show v510.toInt ≤ 1 from by first | exact e514 | omega), (show OwQ v510.toInt (PrA PG RR QO506 QF507 QA508) (PrX PG RR QO506 QF507 QA508 p0.toNatClampNeg ∧ PdT (PG j9) (RR p0.toNatClampNeg) (QF507 p0.toNatClampNeg) (QA508 p0.toNatClampNeg)) from (Or.inl ⟨by omega, hpr⟩)), (show KpO QO QF QO506 QF507 p0.toNatClampNeg from hkp.o), (show (mf 0).toInt = (mf 0).toInt from rfl), (show (mf 2).toInt = (mf 2).toInt from rfl), (show (mf 3).toInt = (mf 3).toInt from rfl), (show (mf 7).toInt = (mf 7).toInt from rfl), (show (mf 8).toInt = (mf 8).toInt from rfl), (show (mf 10).toInt = (mf 10).toInt from rfl), (show Md1 md md from hmdq)⟩) d_Mo_ownCall_267
        · have nc515 : ¬ v510.toInt = (0 : Int) := mt (i_eq (x := v510) (y := 0)).mpr c515
          refine lv_aload_n S.x S.b d_Mo_ownCall_246 rfl (lv_at hl 4 rfl) ?_
          have hkf := hkp.2.1; unfold KpF at hkf
          refine lv_aload_n S.x S.b d_Mo_ownCall_247 rfl (lv_at hl 4 rfl) ?_
          have hw : pw D A s.heap _ _ [wd_Mo cs mo mr (fun _ => none) (upd mf 9 0) md (gMo PG hq), fm 8 (fPg cs PG), fm 13 (fPr cs hq qr QO506 QF507 QA508)] := hw.sub [0, 2, 1] rfl rfl
          have hc517 := cl_nat (x := p0) (by first | exact g0 | omega)
          have hi517 : p0.toNatClampNeg < 13 := by first | exact hi1 | omega
          have hw : pw D A s.heap _ _ [wd_Mo cs mo mr (fun _ => none) (upd mf 9 0) md (gMo PG hq), fm 8 (fPg cs PG), fo 13 (fPr cs hq qr QO506 QF507 QA508) p0.toNatClampNeg, wd_Mpr cs (hq p0.toNatClampNeg) (qr p0.toNatClampNeg) (fun _ => QO506 p0.toNatClampNeg) (QF507 p0.toNatClampNeg) (QA508 p0.toNatClampNeg) (fun _ _ => none)] := fm_out (pr := [wd_Mo cs mo mr (fun _ => none) (upd mf 9 0) md (gMo PG hq), fm 8 (fPg cs PG)]) (T := fPr cs hq qr QO506 QF507 QA508) hw hi517
          have hps517 := hpr.1 p0.toNatClampNeg hi517
          have hpb517 := hps517.1
          unfold PsB at hpb517
          refine px_get S k_Mpr hT hw 3 0 10 (v := .int ((QF507 p0.toNatClampNeg) 10)) rfl rfl rfl (by decide) m11_1 d_Mo_ownCall_248 ?_
          refine lv_iload S.x S.b d_Mo_ownCall_251 (lv_at hl 0 rfl) ?_
          refine lv_isub S.x S.b d_Mo_ownCall_253 ?_
          have lr518 := Int32.le_toInt ((QF507 p0.toNatClampNeg) 10)
          have ur518 := Int32.toInt_lt ((QF507 p0.toNatClampNeg) 10)
          refine lv_topi (fun z519 ez519 => ?_)
          have tz519 : z519.toInt = (((QF507 p0.toNatClampNeg) 10).toInt - (2 : Int) + 2147483648) % 4294967296 - 2147483648 := by rw [ez519]; exact i_sub ((QF507 p0.toNatClampNeg) 10) 2
          have lz519 := Int32.le_toInt z519
          have uz519 := Int32.toInt_lt z519
          try replace tz519 : z519.toInt = ((QF507 p0.toNatClampNeg) 10).toInt - (2 : Int) := by omega
          refine px_put S k_Mpr hT hw 3 0 10 rfl rfl (by decide) m11_1 rfl rfl rfl (Nat.le_of_ble_eq_true rfl) d_Mo_ownCall_254 (w' := wd_Mpr cs (hq p0.toNatClampNeg) (qr p0.toNatClampNeg) (fun _ => QO506 p0.toNatClampNeg) (upd (QF507 p0.toNatClampNeg) 10 z519) (QA508 p0.toNatClampNeg) (fun _ _ => none)) (ps' := [wd_Mo cs mo mr (fun _ => none) (upd mf 9 0) md (gMo PG hq), fm 8 (fPg cs PG), fo 13 (fPr cs hq qr QO506 QF507 QA508) p0.toNatClampNeg, wd_Mpr cs (hq p0.toNatClampNeg) (qr p0.toNatClampNeg) (fun _ => QO506 p0.toNatClampNeg) (upd (QF507 p0.toNatClampNeg) 10 z519) (QA508 p0.toNatClampNeg) (fun _ _ => none)]) rfl rfl (fun H locs hw => ?_)
          refine lv_aload_n S.x S.b d_Mo_ownCall_257 rfl (lv_at hl 4 rfl) ?_
          refine lv_aload_n S.x S.b d_Mo_ownCall_258 rfl (lv_at hl 5 rfl) ?_
          refine px_get S k_Mo hT hw 0 0 9 (v := .int 0) rfl rfl rfl (by decide) m11_87 d_Mo_ownCall_259 ?_
          refine px_callv (pr := [wd_Mo cs mo mr (fun _ => none) (upd mf 9 0) md (gMo PG hq), fm 8 (fPg cs PG), fo 13 (fPr cs hq qr QO506 QF507 QA508) p0.toNatClampNeg]) (px_runV (As := [.int 0]) (rest := []) S (c_mq_give l D cs (hq p0.toNatClampNeg) (qr p0.toNatClampNeg) (fun _ _ => none) (fun _ => QO506 p0.toNatClampNeg) (upd (QF507 p0.toNatClampNeg) 10 z519) (QA508 p0.toNatClampNeg) 0  (show 0 ≤ z519.toInt from by omega) (show z519.toInt < 62500 from by omega) _) hT (pr := [wd_Mo cs mo mr (fun _ => none) (upd mf 9 0) md (gMo PG hq), fm 8 (fPg cs PG), fo 13 (fPr cs hq qr QO506 QF507 QA508) p0.toNatClampNeg]) (pcs := [wd_Mpr cs (hq p0.toNatClampNeg) (qr p0.toNatClampNeg) (fun _ => QO506 p0.toNatClampNeg) (upd (QF507 p0.toNatClampNeg) 10 z519) (QA508 p0.toNatClampNeg) (fun _ _ => none)]) hw px_X.tt (px_recv hT hw 3 0 rfl rfl rfl) m13_161 m14_111 m13_159 m13_160 m1_22 q_Mpr_give ⟨Nat.le_of_ble_eq_true rfl, Nat.le_of_ble_eq_true rfl⟩ hl.1 rfl (Nat.le_of_ble_eq_true rfl) d_Mo_ownCall_262 ⟨Nat.le_of_ble_eq_true rfl, Nat.le_of_ble_eq_true rfl⟩) hw hA (fun p524 H locs hp524 hw => ?_)
          obtain ⟨qf522, qa523, rfl, e526, e527, e528, e529, e530, e531, e532, e533, e534, e535, e536, e537, e538, e539, e540, e541⟩ := hp524
          have e526 : (qf522 10).toInt = z519.toInt + 1 := e526
          have e527 : (qf522 1).toInt = ((QF507 p0.toNatClampNeg) 1).toInt := e527
          have e528 : (qf522 2).toInt = ((QF507 p0.toNatClampNeg) 2).toInt := e528
          have e529 : (qf522 3).toInt = ((QF507 p0.toNatClampNeg) 3).toInt := e529
          have e530 : (qf522 4).toInt = ((QF507 p0.toNatClampNeg) 4).toInt := e530
          have e531 : (qf522 5).toInt = ((QF507 p0.toNatClampNeg) 5).toInt := e531
          have e532 : (qf522 6).toInt = ((QF507 p0.toNatClampNeg) 6).toInt := e532
          have e533 : (qf522 7).toInt = ((QF507 p0.toNatClampNeg) 7).toInt := e533
          have e534 : (qf522 11).toInt = ((QF507 p0.toNatClampNeg) 11).toInt := e534
          have e535 : (qf522 12).toInt = ((QF507 p0.toNatClampNeg) 12).toInt := e535
          have e536 : (qf522 13).toInt = ((QF507 p0.toNatClampNeg) 13).toInt := e536
          have e537 : (qf522 14).toInt = ((QF507 p0.toNatClampNeg) 14).toInt := e537
          have e538 : (qf522 21).toInt = ((QF507 p0.toNatClampNeg) 21).toInt := e538
          have e539 : (qf522 23).toInt = ((QF507 p0.toNatClampNeg) 23).toInt := e539
          have e540 : (qf522 24).toInt = ((QF507 p0.toNatClampNeg) 24).toInt := e540
          have e541 : NuU (QA508 p0.toNatClampNeg) qa523 9 z519.toInt (0 : Int32) := e541
          skip
          have hw : pw D A s.heap H locs [wd_Mo cs mo mr (fun _ => none) (upd mf 9 0) md (gMo PG hq), fm 8 (fPg cs PG), fo 13 (fPr cs hq qr QO506 QF507 QA508) p0.toNatClampNeg, wd_Mpr cs (hq p0.toNatClampNeg) (qr p0.toNatClampNeg) (fun _ => QO506 p0.toNatClampNeg) qf522 qa523 (fun _ _ => none)] := hw
          refine lv_iload S.x S.b d_Mo_ownCall_265 (lv_at hl 1 rfl) ?_
          have hw := fpr_in (pr := [wd_Mo cs mo mr (fun _ => none) (upd mf 9 0) md (gMo PG hq), fm 8 (fPg cs PG)]) hw hi517
          obtain ⟨QO542, hu_QO542⟩ : ∃ y : Nat → Option Nat, y = va_up QO506 p0.toNatClampNeg ((fun _ => QO506 p0.toNatClampNeg) 0) := ⟨_, rfl⟩
          obtain ⟨QF543, hu_QF543⟩ : ∃ y : Nat → Nat → Int32, y = va_up QF507 p0.toNatClampNeg qf522 := ⟨_, rfl⟩
          obtain ⟨QA544, hu_QA544⟩ : ∃ y : Nat → Nat → Nat → Int32, y = va_up QA508 p0.toNatClampNeg qa523 := ⟨_, rfl⟩
          have hw : pw D A s.heap _ _ [wd_Mo cs mo mr (fun _ => none) (upd mf 9 0) md (gMo PG hq), fm 8 (fPg cs PG), fm 13 (fPr cs hq qr QO542 QF543 QA544)] := (by rw [hu_QO542, hu_QF543, hu_QA544]; exact hw)
          have hpx : PrX PG RR QO542 QF543 QA544 p0.toNatClampNeg := (by rw [hu_QO542, hu_QF543, hu_QA544]; exact PrX.up (hpr.px hi517) (show (0 ≤ (qf522 1).toInt ∧ (qf522 1).toInt ≤ 1) ∧ (0 ≤ (qf522 21).toInt ∧ (qf522 21).toInt ≤ 4) ∧ (0 ≤ (qf522 23).toInt ∧ (qf522 23).toInt ≤ 4) ∧ (0 ≤ (qf522 24).toInt ∧ (qf522 24).toInt ≤ 1000000) ∧ (0 ≤ (qf522 6).toInt ∧ (qf522 6).toInt ≤ 3) ∧ (0 ≤ (qf522 7).toInt ∧ (qf522 7).toInt ≤ 1) from by omega) (show (qf522 1).toInt = (QF507 p0.toNatClampNeg 1).toInt from by first | exact oz_1811ac7fe4 e527 | omega) (show (QF507 p0.toNatClampNeg 6).toInt ≤ (qf522 6).toInt from by first | exact oz_f9b42d1b56 e532 | omega))
          have hpd : PdT (PG j9) (RR p0.toNatClampNeg) (QF543 p0.toNatClampNeg) (QA544 p0.toNatClampNeg) := (by rw [hu_QF543, hu_QA544, va_up_s, va_up_s]; exact PoT.ans hpo (show (qf522 4).toInt = (QF p0.toNatClampNeg 4).toInt ∧ (qf522 5).toInt = (QF p0.toNatClampNeg 5).toInt ∧ (qf522 11).toInt = (QF p0.toNatClampNeg 11).toInt ∧ (qf522 12).toInt = (QF p0.toNatClampNeg 12).toInt ∧ (qf522 13).toInt = (QF p0.toNatClampNeg 13).toInt ∧ (qf522 14).toInt = (QF p0.toNatClampNeg 14).toInt from by omega) (show (qf522 10).toInt = (QF p0.toNatClampNeg 10).toInt - ((oslots p1.toInt).length : Int) + 1 from by omega) (show (qf522 24).toInt = (QF p0.toNatClampNeg 24).toInt ∨ (p1.toInt = 1 ∧ (qf522 24).toInt = (QF p0.toNatClampNeg 24).toInt + 1) from by omega) (fun i9 q9 => absurd (by rw [hkp.2.2 8 (by decide) (by decide)]) q9) (fun k9 a9 b9 c9 d9 => hkp.2.2 k9 b9 c9) (show NuU _ _ 9 ((QF p0.toNatClampNeg 10).toInt - ((oslots p1.toInt).length : Int)) _ from (by have q8 := e541; rw [show (z519.toInt) = (QF p0.toNatClampNeg 10).toInt - ((oslots p1.toInt).length : Int) by omega] at q8; exact q8)))
          have hko : KpO QO QF QO542 QF543 p0.toNatClampNeg := (by rw [hu_QO542, hu_QF543]; refine ⟨by rw [va_up_s]; first | done | exact hkp.1, ?_⟩; rw [va_up_s]; exact (show (qf522 1).toInt = (QF p0.toNatClampNeg 1).toInt ∧ (qf522 7).toInt = (QF p0.toNatClampNeg 7).toInt ∧ (qf522 11).toInt = (QF p0.toNatClampNeg 11).toInt from by omega))
          have hw : pw D A s.heap _ _ [wd_Mo cs mo mr (fun _ => none) (upd mf 9 0) md (gMo PG hq), fm 13 (fPr cs hq qr QO542 QF543 QA544), fm 8 (fPg cs PG)] := hw.sub [0, 2, 1] rfl rfl
          exact px_iret (v := v510) S hr (z_nar (by omega)) hlk hAe hw (Nat.le_of_ble_eq_true rfl) (Nat.le_of_ble_eq_true rfl) (⟨(upd mf 9 0), md, QO542, QF543, QA544, rfl, (show 0 ≤ v510.toInt from by first | exact e513 | omega), (show v510.toInt ≤ 1 from by first | exact e514 | omega), (show OwQ v510.toInt (PrA PG RR QO542 QF543 QA544) (PrX PG RR QO542 QF543 QA544 p0.toNatClampNeg ∧ PdT (PG j9) (RR p0.toNatClampNeg) (QF543 p0.toNatClampNeg) (QA544 p0.toNatClampNeg)) from (Or.inr ⟨by omega, hpx, hpd⟩)), (show KpO QO QF QO542 QF543 p0.toNatClampNeg from hko), (show (mf 0).toInt = (mf 0).toInt from rfl), (show (mf 2).toInt = (mf 2).toInt from rfl), (show (mf 3).toInt = (mf 3).toInt from rfl), (show (mf 7).toInt = (mf 7).toInt from rfl), (show (mf 8).toInt = (mf 8).toInt from rfl), (show (mf 10).toInt = (mf 10).toInt from rfl), (show Md1 md md from hmdq)⟩) d_Mo_ownCall_267
      · simp only [List.mem_cons, List.not_mem_nil, or_false] at c424
        refine lv_aload_n S.x S.b d_Mo_ownCall_146 rfl (lv_at hl 5 rfl) ?_
        refine lv_iload_n S.x S.b d_Mo_ownCall_147 rfl (lv_at hl 6 rfl) ?_
        refine lv_iload S.x S.b d_Mo_ownCall_148 (lv_at hl 3 rfl) ?_
        have hw : pw D A s.heap _ _ [wd_Mo cs mo mr (fun _ => none) (upd mf 9 0) md (gMo PG hq), fm 8 (fPg cs PG), fm 13 (fPr cs hq qr QO QF QA)] := fm_back (pr := [wd_Mo cs mo mr (fun _ => none) (upd mf 9 0) md (gMo PG hq), fm 8 (fPg cs PG)]) (T := fPr cs hq qr QO QF QA) hw hi1
        have hw : pw D A s.heap _ _ [wd_Mo cs mo mr (fun _ => none) (upd mf 9 0) md (gMo PG hq), fm 13 (fPr cs hq qr QO QF QA), fm 8 (fPg cs PG)] := hw.sub [0, 2, 1] rfl rfl
        refine px_calli (pr := []) (px_runV (As := [.int p0, .int z4]) (rest := []) S (c_mo_receives l D cs RR mo mr md (upd mf 9 0) hq qr QO QF QA PG p0 z4  (show 0 ≤ p0.toInt from by first | exact g0 | omega) (show p0.toInt < 13 from by first | exact g1 | omega) hpr hpg _) hT (pr := []) (pcs := [wd_Mo cs mo mr (fun _ => none) (upd mf 9 0) md (gMo PG hq), fm 13 (fPr cs hq qr QO QF QA), fm 8 (fPg cs PG)]) hw px_X.tt (px_recv hT hw 0 0 rfl rfl rfl) m14_66 m14_63 m14_65 ms_16_1 m1_20 q_Mo_receives ⟨Nat.le_of_ble_eq_true rfl, Nat.le_of_ble_eq_true rfl⟩ hl.1 rfl (Nat.le_of_ble_eq_true rfl) d_Mo_ownCall_150 ⟨Nat.le_of_ble_eq_true rfl, Nat.le_of_ble_eq_true rfl⟩) hw hA (fun v554 p553 H locs hp553 hw => ?_)
        obtain ⟨mf549, QO550, QF551, QA552, rfl, e555, e556, e557, e558, e559, e560, e561, e562, e563, e564⟩ := hp553
        have e555 : PrA PG RR QO550 QF551 QA552 := e555
        have hpr := e555
        have e556 : KpP QO QF QA QO550 QF551 QA552 p0.toNatClampNeg := e556
        have hkp := hkp.tr e556
        have e557 : (mf549 0).toInt = (mf 0).toInt := e557
        have e558 : (mf549 2).toInt = (mf 2).toInt := e558
        have e559 : (mf549 3).toInt = (mf 3).toInt := e559
        have e560 : (mf549 7).toInt = (mf 7).toInt := e560
        have e561 : (mf549 8).toInt = (mf 8).toInt := e561
        have e562 : (mf549 10).toInt = (mf 10).toInt := e562
        have e563 : 0 ≤ v554.toInt := e563
        have e564 : v554.toInt ≤ 1 := e564
        have hw : pw D A s.heap H locs [wd_Mo cs mo mr (fun _ => none) mf549 md (gMo PG hq), fm 13 (fPr cs hq qr QO550 QF551 QA552), fm 8 (fPg cs PG)] := hw
        have lv554 := Int32.le_toInt v554
        have uv554 := Int32.toInt_lt v554
        refine lv_istore (lv' := [(6, .int v554), (7, .int 1), (5, .int z376), (4, .int z4), (3, .ref (hq p0.toNatClampNeg)), (0, .ref mo), (1, .int p0), (2, .int p1)]) S.x S.b d_Mo_ownCall_153 hl (by decide) rfl (fun ls hl => ?_)
        refine lv_goto (tgt := 241) S.x S.b d_Mo_ownCall_155 (by decide) ?_
        refine lv_iload S.x S.b d_Mo_ownCall_241 (lv_at hl 0 rfl) ?_
        refine lv_if_eq (tgt := 265) S.x S.b d_Mo_ownCall_243 (by decide) (fun c565 => ?_) (fun c565 => ?_)
        · have nc565 : v554.toInt = (0 : Int) := (i_eq (x := v554) (y := 0)).mp c565
          refine lv_iload S.x S.b d_Mo_ownCall_265 (lv_at hl 0 rfl) ?_
          exact px_iret (v := v554) S hr (z_nar (by omega)) hlk hAe hw (Nat.le_of_ble_eq_true rfl) (Nat.le_of_ble_eq_true rfl) (⟨mf549, md, QO550, QF551, QA552, rfl, (show 0 ≤ v554.toInt from by first | exact e563 | omega), (show v554.toInt ≤ 1 from by first | exact e564 | omega), (show OwQ v554.toInt (PrA PG RR QO550 QF551 QA552) (PrX PG RR QO550 QF551 QA552 p0.toNatClampNeg ∧ PdT (PG j9) (RR p0.toNatClampNeg) (QF551 p0.toNatClampNeg) (QA552 p0.toNatClampNeg)) from (Or.inl ⟨by omega, hpr⟩)), (show KpO QO QF QO550 QF551 p0.toNatClampNeg from hkp.o), (show (mf549 0).toInt = (mf 0).toInt from by first | exact e557 | omega), (show (mf549 2).toInt = (mf 2).toInt from by first | exact e558 | omega), (show (mf549 3).toInt = (mf 3).toInt from by first | exact e559 | omega), (show (mf549 7).toInt = (mf 7).toInt from by first | exact e560 | omega), (show (mf549 8).toInt = (mf 8).toInt from by first | exact e561 | omega), (show (mf549 10).toInt = (mf 10).toInt from by first | exact e562 | omega), (show Md1 md md from hmdq)⟩) d_Mo_ownCall_267
        · have nc565 : ¬ v554.toInt = (0 : Int) := mt (i_eq (x := v554) (y := 0)).mpr c565
          refine lv_aload_n S.x S.b d_Mo_ownCall_246 rfl (lv_at hl 4 rfl) ?_
          have hkf := hkp.2.1; unfold KpF at hkf
          refine lv_aload_n S.x S.b d_Mo_ownCall_247 rfl (lv_at hl 4 rfl) ?_
          have hw : pw D A s.heap _ _ [wd_Mo cs mo mr (fun _ => none) mf549 md (gMo PG hq), fm 8 (fPg cs PG), fm 13 (fPr cs hq qr QO550 QF551 QA552)] := hw.sub [0, 2, 1] rfl rfl
          have hc567 := cl_nat (x := p0) (by first | exact g0 | omega)
          have hi567 : p0.toNatClampNeg < 13 := by first | exact hi1 | omega
          have hw : pw D A s.heap _ _ [wd_Mo cs mo mr (fun _ => none) mf549 md (gMo PG hq), fm 8 (fPg cs PG), fo 13 (fPr cs hq qr QO550 QF551 QA552) p0.toNatClampNeg, wd_Mpr cs (hq p0.toNatClampNeg) (qr p0.toNatClampNeg) (fun _ => QO550 p0.toNatClampNeg) (QF551 p0.toNatClampNeg) (QA552 p0.toNatClampNeg) (fun _ _ => none)] := fm_out (pr := [wd_Mo cs mo mr (fun _ => none) mf549 md (gMo PG hq), fm 8 (fPg cs PG)]) (T := fPr cs hq qr QO550 QF551 QA552) hw hi567
          have hps567 := hpr.1 p0.toNatClampNeg hi567
          have hpb567 := hps567.1
          unfold PsB at hpb567
          refine px_get S k_Mpr hT hw 3 0 10 (v := .int ((QF551 p0.toNatClampNeg) 10)) rfl rfl rfl (by decide) m11_1 d_Mo_ownCall_248 ?_
          refine lv_iload S.x S.b d_Mo_ownCall_251 (lv_at hl 1 rfl) ?_
          refine lv_isub S.x S.b d_Mo_ownCall_253 ?_
          have lr568 := Int32.le_toInt ((QF551 p0.toNatClampNeg) 10)
          have ur568 := Int32.toInt_lt ((QF551 p0.toNatClampNeg) 10)
          refine lv_topi (fun z569 ez569 => ?_)
          have tz569 : z569.toInt = (((QF551 p0.toNatClampNeg) 10).toInt - (1 : Int) + 2147483648) % 4294967296 - 2147483648 := by rw [ez569]; exact i_sub ((QF551 p0.toNatClampNeg) 10) 1
          have lz569 := Int32.le_toInt z569
          have uz569 := Int32.toInt_lt z569
          try replace tz569 : z569.toInt = ((QF551 p0.toNatClampNeg) 10).toInt - (1 : Int) := by omega
          refine px_put S k_Mpr hT hw 3 0 10 rfl rfl (by decide) m11_1 rfl rfl rfl (Nat.le_of_ble_eq_true rfl) d_Mo_ownCall_254 (w' := wd_Mpr cs (hq p0.toNatClampNeg) (qr p0.toNatClampNeg) (fun _ => QO550 p0.toNatClampNeg) (upd (QF551 p0.toNatClampNeg) 10 z569) (QA552 p0.toNatClampNeg) (fun _ _ => none)) (ps' := [wd_Mo cs mo mr (fun _ => none) mf549 md (gMo PG hq), fm 8 (fPg cs PG), fo 13 (fPr cs hq qr QO550 QF551 QA552) p0.toNatClampNeg, wd_Mpr cs (hq p0.toNatClampNeg) (qr p0.toNatClampNeg) (fun _ => QO550 p0.toNatClampNeg) (upd (QF551 p0.toNatClampNeg) 10 z569) (QA552 p0.toNatClampNeg) (fun _ _ => none)]) rfl rfl (fun H locs hw => ?_)
          refine lv_aload_n S.x S.b d_Mo_ownCall_257 rfl (lv_at hl 4 rfl) ?_
          refine lv_aload_n S.x S.b d_Mo_ownCall_258 rfl (lv_at hl 5 rfl) ?_
          refine px_get S k_Mo hT hw 0 0 9 (v := .int (mf549 9)) rfl rfl rfl (by decide) m11_87 d_Mo_ownCall_259 ?_
          refine px_callv (pr := [wd_Mo cs mo mr (fun _ => none) mf549 md (gMo PG hq), fm 8 (fPg cs PG), fo 13 (fPr cs hq qr QO550 QF551 QA552) p0.toNatClampNeg]) (px_runV (As := [.int (mf549 9)]) (rest := []) S (c_mq_give l D cs (hq p0.toNatClampNeg) (qr p0.toNatClampNeg) (fun _ _ => none) (fun _ => QO550 p0.toNatClampNeg) (upd (QF551 p0.toNatClampNeg) 10 z569) (QA552 p0.toNatClampNeg) (mf549 9)  (show 0 ≤ z569.toInt from by omega) (show z569.toInt < 62500 from by omega) _) hT (pr := [wd_Mo cs mo mr (fun _ => none) mf549 md (gMo PG hq), fm 8 (fPg cs PG), fo 13 (fPr cs hq qr QO550 QF551 QA552) p0.toNatClampNeg]) (pcs := [wd_Mpr cs (hq p0.toNatClampNeg) (qr p0.toNatClampNeg) (fun _ => QO550 p0.toNatClampNeg) (upd (QF551 p0.toNatClampNeg) 10 z569) (QA552 p0.toNatClampNeg) (fun _ _ => none)]) hw px_X.tt (px_recv hT hw 3 0 rfl rfl rfl) m13_161 m14_111 m13_159 m13_160 m1_22 q_Mpr_give ⟨Nat.le_of_ble_eq_true rfl, Nat.le_of_ble_eq_true rfl⟩ hl.1 rfl (Nat.le_of_ble_eq_true rfl) d_Mo_ownCall_262 ⟨Nat.le_of_ble_eq_true rfl, Nat.le_of_ble_eq_true rfl⟩) hw hA (fun p574 H locs hp574 hw => ?_)
          obtain ⟨qf572, qa573, rfl, e576, e577, e578, e579, e580, e581, e582, e583, e584, e585, e586, e587, e588, e589, e590, e591⟩ := hp574
          have e576 : (qf572 10).toInt = z569.toInt + 1 := e576
          have e577 : (qf572 1).toInt = ((QF551 p0.toNatClampNeg) 1).toInt := e577
          have e578 : (qf572 2).toInt = ((QF551 p0.toNatClampNeg) 2).toInt := e578
          have e579 : (qf572 3).toInt = ((QF551 p0.toNatClampNeg) 3).toInt := e579
          have e580 : (qf572 4).toInt = ((QF551 p0.toNatClampNeg) 4).toInt := e580
          have e581 : (qf572 5).toInt = ((QF551 p0.toNatClampNeg) 5).toInt := e581
          have e582 : (qf572 6).toInt = ((QF551 p0.toNatClampNeg) 6).toInt := e582
          have e583 : (qf572 7).toInt = ((QF551 p0.toNatClampNeg) 7).toInt := e583
          have e584 : (qf572 11).toInt = ((QF551 p0.toNatClampNeg) 11).toInt := e584
          have e585 : (qf572 12).toInt = ((QF551 p0.toNatClampNeg) 12).toInt := e585
          have e586 : (qf572 13).toInt = ((QF551 p0.toNatClampNeg) 13).toInt := e586
          have e587 : (qf572 14).toInt = ((QF551 p0.toNatClampNeg) 14).toInt := e587
          have e588 : (qf572 21).toInt = ((QF551 p0.toNatClampNeg) 21).toInt := e588
          have e589 : (qf572 23).toInt = ((QF551 p0.toNatClampNeg) 23).toInt := e589
          have e590 : (qf572 24).toInt = ((QF551 p0.toNatClampNeg) 24).toInt := e590
          have e591 : NuU (QA552 p0.toNatClampNeg) qa573 9 z569.toInt (mf549 9) := e591
          skip
          have hw : pw D A s.heap H locs [wd_Mo cs mo mr (fun _ => none) mf549 md (gMo PG hq), fm 8 (fPg cs PG), fo 13 (fPr cs hq qr QO550 QF551 QA552) p0.toNatClampNeg, wd_Mpr cs (hq p0.toNatClampNeg) (qr p0.toNatClampNeg) (fun _ => QO550 p0.toNatClampNeg) qf572 qa573 (fun _ _ => none)] := hw
          refine lv_iload S.x S.b d_Mo_ownCall_265 (lv_at hl 0 rfl) ?_
          have hw := fpr_in (pr := [wd_Mo cs mo mr (fun _ => none) mf549 md (gMo PG hq), fm 8 (fPg cs PG)]) hw hi567
          obtain ⟨QO592, hu_QO592⟩ : ∃ y : Nat → Option Nat, y = va_up QO550 p0.toNatClampNeg ((fun _ => QO550 p0.toNatClampNeg) 0) := ⟨_, rfl⟩
          obtain ⟨QF593, hu_QF593⟩ : ∃ y : Nat → Nat → Int32, y = va_up QF551 p0.toNatClampNeg qf572 := ⟨_, rfl⟩
          obtain ⟨QA594, hu_QA594⟩ : ∃ y : Nat → Nat → Nat → Int32, y = va_up QA552 p0.toNatClampNeg qa573 := ⟨_, rfl⟩
          have hw : pw D A s.heap _ _ [wd_Mo cs mo mr (fun _ => none) mf549 md (gMo PG hq), fm 8 (fPg cs PG), fm 13 (fPr cs hq qr QO592 QF593 QA594)] := (by rw [hu_QO592, hu_QF593, hu_QA594]; exact hw)
          have hpx : PrX PG RR QO592 QF593 QA594 p0.toNatClampNeg := (by rw [hu_QO592, hu_QF593, hu_QA594]; exact PrX.up (hpr.px hi567) (show (0 ≤ (qf572 1).toInt ∧ (qf572 1).toInt ≤ 1) ∧ (0 ≤ (qf572 21).toInt ∧ (qf572 21).toInt ≤ 4) ∧ (0 ≤ (qf572 23).toInt ∧ (qf572 23).toInt ≤ 4) ∧ (0 ≤ (qf572 24).toInt ∧ (qf572 24).toInt ≤ 1000000) ∧ (0 ≤ (qf572 6).toInt ∧ (qf572 6).toInt ≤ 3) ∧ (0 ≤ (qf572 7).toInt ∧ (qf572 7).toInt ≤ 1) from by omega) (show (qf572 1).toInt = (QF551 p0.toNatClampNeg 1).toInt from by first | exact oz_1811ac7fe4 e577 | omega) (show (QF551 p0.toNatClampNeg 6).toInt ≤ (qf572 6).toInt from by first | exact oz_f9b42d1b56 e582 | omega))
          have hpd : PdT (PG j9) (RR p0.toNatClampNeg) (QF593 p0.toNatClampNeg) (QA594 p0.toNatClampNeg) := (by rw [hu_QF593, hu_QA594, va_up_s, va_up_s]; exact PoT.ans hpo (show (qf572 4).toInt = (QF p0.toNatClampNeg 4).toInt ∧ (qf572 5).toInt = (QF p0.toNatClampNeg 5).toInt ∧ (qf572 11).toInt = (QF p0.toNatClampNeg 11).toInt ∧ (qf572 12).toInt = (QF p0.toNatClampNeg 12).toInt ∧ (qf572 13).toInt = (QF p0.toNatClampNeg 13).toInt ∧ (qf572 14).toInt = (QF p0.toNatClampNeg 14).toInt from by omega) (show (qf572 10).toInt = (QF p0.toNatClampNeg 10).toInt - ((oslots p1.toInt).length : Int) + 1 from by omega) (show (qf572 24).toInt = (QF p0.toNatClampNeg 24).toInt ∨ (p1.toInt = 1 ∧ (qf572 24).toInt = (QF p0.toNatClampNeg 24).toInt + 1) from by omega) (fun i9 q9 => absurd (by rw [hkp.2.2 8 (by decide) (by decide)]) q9) (fun k9 a9 b9 c9 d9 => hkp.2.2 k9 b9 c9) (show NuU _ _ 9 ((QF p0.toNatClampNeg 10).toInt - ((oslots p1.toInt).length : Int)) _ from (by have q8 := e591; rw [show (z569.toInt) = (QF p0.toNatClampNeg 10).toInt - ((oslots p1.toInt).length : Int) by omega] at q8; exact q8)))
          have hko : KpO QO QF QO592 QF593 p0.toNatClampNeg := (by rw [hu_QO592, hu_QF593]; refine ⟨by rw [va_up_s]; first | done | exact hkp.1, ?_⟩; rw [va_up_s]; exact (show (qf572 1).toInt = (QF p0.toNatClampNeg 1).toInt ∧ (qf572 7).toInt = (QF p0.toNatClampNeg 7).toInt ∧ (qf572 11).toInt = (QF p0.toNatClampNeg 11).toInt from by omega))
          have hw : pw D A s.heap _ _ [wd_Mo cs mo mr (fun _ => none) mf549 md (gMo PG hq), fm 13 (fPr cs hq qr QO592 QF593 QA594), fm 8 (fPg cs PG)] := hw.sub [0, 2, 1] rfl rfl
          exact px_iret (v := v554) S hr (z_nar (by omega)) hlk hAe hw (Nat.le_of_ble_eq_true rfl) (Nat.le_of_ble_eq_true rfl) (⟨mf549, md, QO592, QF593, QA594, rfl, (show 0 ≤ v554.toInt from by first | exact e563 | omega), (show v554.toInt ≤ 1 from by first | exact e564 | omega), (show OwQ v554.toInt (PrA PG RR QO592 QF593 QA594) (PrX PG RR QO592 QF593 QA594 p0.toNatClampNeg ∧ PdT (PG j9) (RR p0.toNatClampNeg) (QF593 p0.toNatClampNeg) (QA594 p0.toNatClampNeg)) from (Or.inr ⟨by omega, hpx, hpd⟩)), (show KpO QO QF QO592 QF593 p0.toNatClampNeg from hko), (show (mf549 0).toInt = (mf 0).toInt from by first | exact e557 | omega), (show (mf549 2).toInt = (mf 2).toInt from by first | exact e558 | omega), (show (mf549 3).toInt = (mf 3).toInt from by first | exact e559 | omega), (show (mf549 7).toInt = (mf 7).toInt from by first | exact e560 | omega), (show (mf549 8).toInt = (mf 8).toInt from by first | exact e561 | omega), (show (mf549 10).toInt = (mf 10).toInt from by first | exact e562 | omega), (show Md1 md md from hmdq)⟩) d_Mo_ownCall_267
      · simp only [List.mem_cons, List.not_mem_nil, or_false] at c424
        refine lv_aload_n S.x S.b d_Mo_ownCall_158 rfl (lv_at hl 5 rfl) ?_
        refine lv_iload_n S.x S.b d_Mo_ownCall_159 rfl (lv_at hl 6 rfl) ?_
        refine lv_iload S.x S.b d_Mo_ownCall_160 (lv_at hl 3 rfl) ?_
        have hw : pw D A s.heap _ _ [wd_Mo cs mo mr (fun _ => none) (upd mf 9 0) md (gMo PG hq), fm 8 (fPg cs PG), fm 13 (fPr cs hq qr QO QF QA)] := fm_back (pr := [wd_Mo cs mo mr (fun _ => none) (upd mf 9 0) md (gMo PG hq), fm 8 (fPg cs PG)]) (T := fPr cs hq qr QO QF QA) hw hi1
        have hw : pw D A s.heap _ _ [wd_Mo cs mo mr (fun _ => none) (upd mf 9 0) md (gMo PG hq), fm 13 (fPr cs hq qr QO QF QA), fm 8 (fPg cs PG)] := hw.sub [0, 2, 1] rfl rfl
        refine px_calli (pr := []) (px_runV (As := [.int p0, .int z4]) (rest := []) S (c_mo_asksMore l D cs RR mo mr md (upd mf 9 0) hq qr QO QF QA PG p0 z4  (show 0 ≤ p0.toInt from by first | exact g0 | omega) (show p0.toInt < 13 from by first | exact g1 | omega) hpr hpg _) hT (pr := []) (pcs := [wd_Mo cs mo mr (fun _ => none) (upd mf 9 0) md (gMo PG hq), fm 13 (fPr cs hq qr QO QF QA), fm 8 (fPg cs PG)]) hw px_X.tt (px_recv hT hw 0 0 rfl rfl rfl) m14_78 m14_75 m14_77 ms_16_4 m1_20 q_Mo_asksMore ⟨Nat.le_of_ble_eq_true rfl, Nat.le_of_ble_eq_true rfl⟩ hl.1 rfl (Nat.le_of_ble_eq_true rfl) d_Mo_ownCall_162 ⟨Nat.le_of_ble_eq_true rfl, Nat.le_of_ble_eq_true rfl⟩) hw hA (fun v604 p603 H locs hp603 hw => ?_)
        obtain ⟨mf599, QO600, QF601, QA602, rfl, e605, e606, e607, e608, e609, e610, e611, e612, e613, e614⟩ := hp603
        have e605 : PrA PG RR QO600 QF601 QA602 := e605
        have hpr := e605
        have e606 : KpP QO QF QA QO600 QF601 QA602 p0.toNatClampNeg := e606
        have hkp := hkp.tr e606
        have e607 : (mf599 0).toInt = (mf 0).toInt := e607
        have e608 : (mf599 2).toInt = (mf 2).toInt := e608
        have e609 : (mf599 3).toInt = (mf 3).toInt := e609
        have e610 : (mf599 7).toInt = (mf 7).toInt := e610
        have e611 : (mf599 8).toInt = (mf 8).toInt := e611
        have e612 : (mf599 10).toInt = (mf 10).toInt := e612
        have e613 : 0 ≤ v604.toInt := e613
        have e614 : v604.toInt ≤ 1 := e614
        have hw : pw D A s.heap H locs [wd_Mo cs mo mr (fun _ => none) mf599 md (gMo PG hq), fm 13 (fPr cs hq qr QO600 QF601 QA602), fm 8 (fPg cs PG)] := hw
        have lv604 := Int32.le_toInt v604
        have uv604 := Int32.toInt_lt v604
        refine lv_istore (lv' := [(6, .int v604), (7, .int 1), (5, .int z376), (4, .int z4), (3, .ref (hq p0.toNatClampNeg)), (0, .ref mo), (1, .int p0), (2, .int p1)]) S.x S.b d_Mo_ownCall_165 hl (by decide) rfl (fun ls hl => ?_)
        refine lv_goto (tgt := 241) S.x S.b d_Mo_ownCall_167 (by decide) ?_
        refine lv_iload S.x S.b d_Mo_ownCall_241 (lv_at hl 0 rfl) ?_
        refine lv_if_eq (tgt := 265) S.x S.b d_Mo_ownCall_243 (by decide) (fun c615 => ?_) (fun c615 => ?_)
        · have nc615 : v604.toInt = (0 : Int) := (i_eq (x := v604) (y := 0)).mp c615
          refine lv_iload S.x S.b d_Mo_ownCall_265 (lv_at hl 0 rfl) ?_
          exact px_iret (v := v604) S hr (z_nar (by omega)) hlk hAe hw (Nat.le_of_ble_eq_true rfl) (Nat.le_of_ble_eq_true rfl) (⟨mf599, md, QO600, QF601, QA602, rfl, (show 0 ≤ v604.toInt from by first | exact e613 | omega), (show v604.toInt ≤ 1 from by first | exact e614 | omega), (show OwQ v604.toInt (PrA PG RR QO600 QF601 QA602) (PrX PG RR QO600 QF601 QA602 p0.toNatClampNeg ∧ PdT (PG j9) (RR p0.toNatClampNeg) (QF601 p0.toNatClampNeg) (QA602 p0.toNatClampNeg)) from (Or.inl ⟨by omega, hpr⟩)), (show KpO QO QF QO600 QF601 p0.toNatClampNeg from hkp.o), (show (mf599 0).toInt = (mf 0).toInt from by first | exact e607 | omega), (show (mf599 2).toInt = (mf 2).toInt from by first | exact e608 | omega), (show (mf599 3).toInt = (mf 3).toInt from by first | exact e609 | omega), (show (mf599 7).toInt = (mf 7).toInt from by first | exact e610 | omega), (show (mf599 8).toInt = (mf 8).toInt from by first | exact e611 | omega), (show (mf599 10).toInt = (mf 10).toInt from by first | exact e612 | omega), (show Md1 md md from hmdq)⟩) d_Mo_ownCall_267
        · have nc615 : ¬ v604.toInt = (0 : Int) := mt (i_eq (x := v604) (y := 0)).mpr c615
          refine lv_aload_n S.x S.b d_Mo_ownCall_246 rfl (lv_at hl 4 rfl) ?_
          have hkf := hkp.2.1; unfold KpF at hkf
          refine lv_aload_n S.x S.b d_Mo_ownCall_247 rfl (lv_at hl 4 rfl) ?_
          have hw : pw D A s.heap _ _ [wd_Mo cs mo mr (fun _ => none) mf599 md (gMo PG hq), fm 8 (fPg cs PG), fm 13 (fPr cs hq qr QO600 QF601 QA602)] := hw.sub [0, 2, 1] rfl rfl
          have hc617 := cl_nat (x := p0) (by first | exact g0 | omega)
          have hi617 : p0.toNatClampNeg < 13 := by first | exact hi1 | omega
          have hw : pw D A s.heap _ _ [wd_Mo cs mo mr (fun _ => none) mf599 md (gMo PG hq), fm 8 (fPg cs PG), fo 13 (fPr cs hq qr QO600 QF601 QA602) p0.toNatClampNeg, wd_Mpr cs (hq p0.toNatClampNeg) (qr p0.toNatClampNeg) (fun _ => QO600 p0.toNatClampNeg) (QF601 p0.toNatClampNeg) (QA602 p0.toNatClampNeg) (fun _ _ => none)] := fm_out (pr := [wd_Mo cs mo mr (fun _ => none) mf599 md (gMo PG hq), fm 8 (fPg cs PG)]) (T := fPr cs hq qr QO600 QF601 QA602) hw hi617
          have hps617 := hpr.1 p0.toNatClampNeg hi617
          have hpb617 := hps617.1
          unfold PsB at hpb617
          refine px_get S k_Mpr hT hw 3 0 10 (v := .int ((QF601 p0.toNatClampNeg) 10)) rfl rfl rfl (by decide) m11_1 d_Mo_ownCall_248 ?_
          refine lv_iload S.x S.b d_Mo_ownCall_251 (lv_at hl 1 rfl) ?_
          refine lv_isub S.x S.b d_Mo_ownCall_253 ?_
          have lr618 := Int32.le_toInt ((QF601 p0.toNatClampNeg) 10)
          have ur618 := Int32.toInt_lt ((QF601 p0.toNatClampNeg) 10)
          refine lv_topi (fun z619 ez619 => ?_)
          have tz619 : z619.toInt = (((QF601 p0.toNatClampNeg) 10).toInt - (1 : Int) + 2147483648) % 4294967296 - 2147483648 := by rw [ez619]; exact i_sub ((QF601 p0.toNatClampNeg) 10) 1
          have lz619 := Int32.le_toInt z619
          have uz619 := Int32.toInt_lt z619
          try replace tz619 : z619.toInt = ((QF601 p0.toNatClampNeg) 10).toInt - (1 : Int) := by omega
          refine px_put S k_Mpr hT hw 3 0 10 rfl rfl (by decide) m11_1 rfl rfl rfl (Nat.le_of_ble_eq_true rfl) d_Mo_ownCall_254 (w' := wd_Mpr cs (hq p0.toNatClampNeg) (qr p0.toNatClampNeg) (fun _ => QO600 p0.toNatClampNeg) (upd (QF601 p0.toNatClampNeg) 10 z619) (QA602 p0.toNatClampNeg) (fun _ _ => none)) (ps' := [wd_Mo cs mo mr (fun _ => none) mf599 md (gMo PG hq), fm 8 (fPg cs PG), fo 13 (fPr cs hq qr QO600 QF601 QA602) p0.toNatClampNeg, wd_Mpr cs (hq p0.toNatClampNeg) (qr p0.toNatClampNeg) (fun _ => QO600 p0.toNatClampNeg) (upd (QF601 p0.toNatClampNeg) 10 z619) (QA602 p0.toNatClampNeg) (fun _ _ => none)]) rfl rfl (fun H locs hw => ?_)
          refine lv_aload_n S.x S.b d_Mo_ownCall_257 rfl (lv_at hl 4 rfl) ?_
          refine lv_aload_n S.x S.b d_Mo_ownCall_258 rfl (lv_at hl 5 rfl) ?_
          refine px_get S k_Mo hT hw 0 0 9 (v := .int (mf599 9)) rfl rfl rfl (by decide) m11_87 d_Mo_ownCall_259 ?_
          refine px_callv (pr := [wd_Mo cs mo mr (fun _ => none) mf599 md (gMo PG hq), fm 8 (fPg cs PG), fo 13 (fPr cs hq qr QO600 QF601 QA602) p0.toNatClampNeg]) (px_runV (As := [.int (mf599 9)]) (rest := []) S (c_mq_give l D cs (hq p0.toNatClampNeg) (qr p0.toNatClampNeg) (fun _ _ => none) (fun _ => QO600 p0.toNatClampNeg) (upd (QF601 p0.toNatClampNeg) 10 z619) (QA602 p0.toNatClampNeg) (mf599 9)  (show 0 ≤ z619.toInt from by omega) (show z619.toInt < 62500 from by omega) _) hT (pr := [wd_Mo cs mo mr (fun _ => none) mf599 md (gMo PG hq), fm 8 (fPg cs PG), fo 13 (fPr cs hq qr QO600 QF601 QA602) p0.toNatClampNeg]) (pcs := [wd_Mpr cs (hq p0.toNatClampNeg) (qr p0.toNatClampNeg) (fun _ => QO600 p0.toNatClampNeg) (upd (QF601 p0.toNatClampNeg) 10 z619) (QA602 p0.toNatClampNeg) (fun _ _ => none)]) hw px_X.tt (px_recv hT hw 3 0 rfl rfl rfl) m13_161 m14_111 m13_159 m13_160 m1_22 q_Mpr_give ⟨Nat.le_of_ble_eq_true rfl, Nat.le_of_ble_eq_true rfl⟩ hl.1 rfl (Nat.le_of_ble_eq_true rfl) d_Mo_ownCall_262 ⟨Nat.le_of_ble_eq_true rfl, Nat.le_of_ble_eq_true rfl⟩) hw hA (fun p624 H locs hp624 hw => ?_)
          obtain ⟨qf622, qa623, rfl, e626, e627, e628, e629, e630, e631, e632, e633, e634, e635, e636, e637, e638, e639, e640, e641⟩ := hp624
          have e626 : (qf622 10).toInt = z619.toInt + 1 := e626
          have e627 : (qf622 1).toInt = ((QF601 p0.toNatClampNeg) 1).toInt := e627
          have e628 : (qf622 2).toInt = ((QF601 p0.toNatClampNeg) 2).toInt := e628
          have e629 : (qf622 3).toInt = ((QF601 p0.toNatClampNeg) 3).toInt := e629
          have e630 : (qf622 4).toInt = ((QF601 p0.toNatClampNeg) 4).toInt := e630
          have e631 : (qf622 5).toInt = ((QF601 p0.toNatClampNeg) 5).toInt := e631
          have e632 : (qf622 6).toInt = ((QF601 p0.toNatClampNeg) 6).toInt := e632
          have e633 : (qf622 7).toInt = ((QF601 p0.toNatClampNeg) 7).toInt := e633
          have e634 : (qf622 11).toInt = ((QF601 p0.toNatClampNeg) 11).toInt := e634
          have e635 : (qf622 12).toInt = ((QF601 p0.toNatClampNeg) 12).toInt := e635
          have e636 : (qf622 13).toInt = ((QF601 p0.toNatClampNeg) 13).toInt := e636
          have e637 : (qf622 14).toInt = ((QF601 p0.toNatClampNeg) 14).toInt := e637
          have e638 : (qf622 21).toInt = ((QF601 p0.toNatClampNeg) 21).toInt := e638
          have e639 : (qf622 23).toInt = ((QF601 p0.toNatClampNeg) 23).toInt := e639
          have e640 : (qf622 24).toInt = ((QF601 p0.toNatClampNeg) 24).toInt := e640
          have e641 : NuU (QA602 p0.toNatClampNeg) qa623 9 z619.toInt (mf599 9) := e641
          skip
          have hw : pw D A s.heap H locs [wd_Mo cs mo mr (fun _ => none) mf599 md (gMo PG hq), fm 8 (fPg cs PG), fo 13 (fPr cs hq qr QO600 QF601 QA602) p0.toNatClampNeg, wd_Mpr cs (hq p0.toNatClampNeg) (qr p0.toNatClampNeg) (fun _ => QO600 p0.toNatClampNeg) qf622 qa623 (fun _ _ => none)] := hw
          refine lv_iload S.x S.b d_Mo_ownCall_265 (lv_at hl 0 rfl) ?_
          have hw := fpr_in (pr := [wd_Mo cs mo mr (fun _ => none) mf599 md (gMo PG hq), fm 8 (fPg cs PG)]) hw hi617
          obtain ⟨QO642, hu_QO642⟩ : ∃ y : Nat → Option Nat, y = va_up QO600 p0.toNatClampNeg ((fun _ => QO600 p0.toNatClampNeg) 0) := ⟨_, rfl⟩
          obtain ⟨QF643, hu_QF643⟩ : ∃ y : Nat → Nat → Int32, y = va_up QF601 p0.toNatClampNeg qf622 := ⟨_, rfl⟩
          obtain ⟨QA644, hu_QA644⟩ : ∃ y : Nat → Nat → Nat → Int32, y = va_up QA602 p0.toNatClampNeg qa623 := ⟨_, rfl⟩
          have hw : pw D A s.heap _ _ [wd_Mo cs mo mr (fun _ => none) mf599 md (gMo PG hq), fm 8 (fPg cs PG), fm 13 (fPr cs hq qr QO642 QF643 QA644)] := (by rw [hu_QO642, hu_QF643, hu_QA644]; exact hw)
          have hpx : PrX PG RR QO642 QF643 QA644 p0.toNatClampNeg := (by rw [hu_QO642, hu_QF643, hu_QA644]; exact PrX.up (hpr.px hi617) (show (0 ≤ (qf622 1).toInt ∧ (qf622 1).toInt ≤ 1) ∧ (0 ≤ (qf622 21).toInt ∧ (qf622 21).toInt ≤ 4) ∧ (0 ≤ (qf622 23).toInt ∧ (qf622 23).toInt ≤ 4) ∧ (0 ≤ (qf622 24).toInt ∧ (qf622 24).toInt ≤ 1000000) ∧ (0 ≤ (qf622 6).toInt ∧ (qf622 6).toInt ≤ 3) ∧ (0 ≤ (qf622 7).toInt ∧ (qf622 7).toInt ≤ 1) from by omega) (show (qf622 1).toInt = (QF601 p0.toNatClampNeg 1).toInt from by first | exact oz_1811ac7fe4 e627 | omega) (show (QF601 p0.toNatClampNeg 6).toInt ≤ (qf622 6).toInt from by first | exact oz_f9b42d1b56 e632 | omega))
          have hpd : PdT (PG j9) (RR p0.toNatClampNeg) (QF643 p0.toNatClampNeg) (QA644 p0.toNatClampNeg) := (by rw [hu_QF643, hu_QA644, va_up_s, va_up_s]; exact PoT.ans hpo (show (qf622 4).toInt = (QF p0.toNatClampNeg 4).toInt ∧ (qf622 5).toInt = (QF p0.toNatClampNeg 5).toInt ∧ (qf622 11).toInt = (QF p0.toNatClampNeg 11).toInt ∧ (qf622 12).toInt = (QF p0.toNatClampNeg 12).toInt ∧ (qf622 13).toInt = (QF p0.toNatClampNeg 13).toInt ∧ (qf622 14).toInt = (QF p0.toNatClampNeg 14).toInt from by omega) (show (qf622 10).toInt = (QF p0.toNatClampNeg 10).toInt - ((oslots p1.toInt).length : Int) + 1 from by omega) (show (qf622 24).toInt = (QF p0.toNatClampNeg 24).toInt ∨ (p1.toInt = 1 ∧ (qf622 24).toInt = (QF p0.toNatClampNeg 24).toInt + 1) from by omega) (fun i9 q9 => absurd (by rw [hkp.2.2 8 (by decide) (by decide)]) q9) (fun k9 a9 b9 c9 d9 => hkp.2.2 k9 b9 c9) (show NuU _ _ 9 ((QF p0.toNatClampNeg 10).toInt - ((oslots p1.toInt).length : Int)) _ from (by have q8 := e641; rw [show (z619.toInt) = (QF p0.toNatClampNeg 10).toInt - ((oslots p1.toInt).length : Int) by omega] at q8; exact q8)))
          have hko : KpO QO QF QO642 QF643 p0.toNatClampNeg := (by rw [hu_QO642, hu_QF643]; refine ⟨by rw [va_up_s]; first | done | exact hkp.1, ?_⟩; rw [va_up_s]; exact (show (qf622 1).toInt = (QF p0.toNatClampNeg 1).toInt ∧ (qf622 7).toInt = (QF p0.toNatClampNeg 7).toInt ∧ (qf622 11).toInt = (QF p0.toNatClampNeg 11).toInt from by omega))
          have hw : pw D A s.heap _ _ [wd_Mo cs mo mr (fun _ => none) mf599 md (gMo PG hq), fm 13 (fPr cs hq qr QO642 QF643 QA644), fm 8 (fPg cs PG)] := hw.sub [0, 2, 1] rfl rfl
          exact px_iret (v := v604) S hr (z_nar (by omega)) hlk hAe hw (Nat.le_of_ble_eq_true rfl) (Nat.le_of_ble_eq_true rfl) (⟨mf599, md, QO642, QF643, QA644, rfl, (show 0 ≤ v604.toInt from by first | exact e613 | omega), (show v604.toInt ≤ 1 from by first | exact e614 | omega), (show OwQ v604.toInt (PrA PG RR QO642 QF643 QA644) (PrX PG RR QO642 QF643 QA644 p0.toNatClampNeg ∧ PdT (PG j9) (RR p0.toNatClampNeg) (QF643 p0.toNatClampNeg) (QA644 p0.toNatClampNeg)) from (Or.inr ⟨by omega, hpx, hpd⟩)), (show KpO QO QF QO642 QF643 p0.toNatClampNeg from hko), (show (mf599 0).toInt = (mf 0).toInt from by first | exact e607 | omega), (show (mf599 2).toInt = (mf 2).toInt from by first | exact e608 | omega), (show (mf599 3).toInt = (mf 3).toInt from by first | exact e609 | omega), (show (mf599 7).toInt = (mf 7).toInt from by first | exact e610 | omega), (show (mf599 8).toInt = (mf 8).toInt from by first | exact e611 | omega), (show (mf599 10).toInt = (mf 10).toInt from by first | exact e612 | omega), (show Md1 md md from hmdq)⟩) d_Mo_ownCall_267
      · simp only [List.mem_cons, List.not_mem_nil, or_false] at c424
        refine lv_aload_n S.x S.b d_Mo_ownCall_170 rfl (lv_at hl 5 rfl) ?_
        refine lv_iload_n S.x S.b d_Mo_ownCall_171 rfl (lv_at hl 6 rfl) ?_
        refine lv_iload S.x S.b d_Mo_ownCall_172 (lv_at hl 2 rfl) ?_
        refine lv_iload S.x S.b d_Mo_ownCall_174 (lv_at hl 3 rfl) ?_
        have hw : pw D A s.heap _ _ [wd_Mo cs mo mr (fun _ => none) (upd mf 9 0) md (gMo PG hq), fm 8 (fPg cs PG), fm 13 (fPr cs hq qr QO QF QA)] := fm_back (pr := [wd_Mo cs mo mr (fun _ => none) (upd mf 9 0) md (gMo PG hq), fm 8 (fPg cs PG)]) (T := fPr cs hq qr QO QF QA) hw hi1
        have hw : pw D A s.heap _ _ [wd_Mo cs mo mr (fun _ => none) (upd mf 9 0) md (gMo PG hq), fm 13 (fPr cs hq qr QO QF QA), fm 8 (fPg cs PG)] := hw.sub [0, 2, 1] rfl rfl
        refine px_callv (pr := []) (px_runV (As := [.int p0, .int z376, .int z4]) (rest := []) S (c_mo_spawns l D cs RR mo mr md (upd mf 9 0) hq qr QO QF QA PG p0 z376 z4  (show 0 ≤ p0.toInt from by first | exact g0 | omega) (show p0.toInt < 13 from by first | exact g1 | omega) (show 0 ≤ (mf 7).toInt from by first | exact g2 | omega) (show (mf 7).toInt ≤ 100 from by first | exact g3 | omega) (show 0 ≤ (mf 8).toInt from by first | exact g4 | omega) (show (mf 8).toInt ≤ 512 from by first | exact g5 | omega) (show (QF p0.toNatClampNeg 1).toInt = 1 from by first | exact g8 | omega) hpr hpg _) hT (pr := []) (pcs := [wd_Mo cs mo mr (fun _ => none) (upd mf 9 0) md (gMo PG hq), fm 13 (fPr cs hq qr QO QF QA), fm 8 (fPg cs PG)]) hw px_X.tt (px_recv hT hw 0 0 rfl rfl rfl) m14_82 m14_79 m14_81 ms_16_5 m1_20 q_Mo_spawns ⟨Nat.le_of_ble_eq_true rfl, Nat.le_of_ble_eq_true rfl⟩ hl.1 rfl (Nat.le_of_ble_eq_true rfl) d_Mo_ownCall_176 ⟨Nat.le_of_ble_eq_true rfl, Nat.le_of_ble_eq_true rfl⟩) hw hA (fun p653 H locs hp653 hw => ?_)
        obtain ⟨mf649, QO650, QF651, QA652, rfl, e655, e656, e657, e658, e659, e660, e661, e662⟩ := hp653
        have e655 : PrA PG RR QO650 QF651 QA652 := e655
        have hpr := e655
        have e656 : KpP QO QF QA QO650 QF651 QA652 p0.toNatClampNeg := e656
        have hkp := hkp.tr e656
        have e657 : (mf649 0).toInt = (mf 0).toInt := e657
        have e658 : (mf649 2).toInt = (mf 2).toInt := e658
        have e659 : (mf649 3).toInt = (mf 3).toInt := e659
        have e660 : (mf649 7).toInt = (mf 7).toInt := e660
        have e661 : (mf649 8).toInt = (mf 8).toInt := e661
        have e662 : (mf649 10).toInt = (mf 10).toInt := e662
        have hw : pw D A s.heap H locs [wd_Mo cs mo mr (fun _ => none) mf649 md (gMo PG hq), fm 13 (fPr cs hq qr QO650 QF651 QA652), fm 8 (fPg cs PG)] := hw
        refine lv_iconst (v := 2) S.x S.b d_Mo_ownCall_179 (by decide) ?_
        refine lv_istore (lv' := [(7, .int 2), (6, .int 1), (5, .int z376), (4, .int z4), (3, .ref (hq p0.toNatClampNeg)), (0, .ref mo), (1, .int p0), (2, .int p1)]) S.x S.b d_Mo_ownCall_180 hl (by decide) rfl (fun ls hl => ?_)
        refine lv_goto (tgt := 241) S.x S.b d_Mo_ownCall_182 (by decide) ?_
        refine lv_iload S.x S.b d_Mo_ownCall_241 (lv_at hl 1 rfl) ?_
        refine lv_if_eq (tgt := 265) S.x S.b d_Mo_ownCall_243 (by decide) (fun c663 => ?_) (fun c663 => ?_)
        · exact absurd c663 (by decide)
        ·
          refine lv_aload_n S.x S.b d_Mo_ownCall_246 rfl (lv_at hl 4 rfl) ?_
          have hkf := hkp.2.1; unfold KpF at hkf
          refine lv_aload_n S.x S.b d_Mo_ownCall_247 rfl (lv_at hl 4 rfl) ?_
          have hw : pw D A s.heap _ _ [wd_Mo cs mo mr (fun _ => none) mf649 md (gMo PG hq), fm 8 (fPg cs PG), fm 13 (fPr cs hq qr QO650 QF651 QA652)] := hw.sub [0, 2, 1] rfl rfl
          have hc664 := cl_nat (x := p0) (by first | exact g0 | omega)
          have hi664 : p0.toNatClampNeg < 13 := by first | exact hi1 | omega
          have hw : pw D A s.heap _ _ [wd_Mo cs mo mr (fun _ => none) mf649 md (gMo PG hq), fm 8 (fPg cs PG), fo 13 (fPr cs hq qr QO650 QF651 QA652) p0.toNatClampNeg, wd_Mpr cs (hq p0.toNatClampNeg) (qr p0.toNatClampNeg) (fun _ => QO650 p0.toNatClampNeg) (QF651 p0.toNatClampNeg) (QA652 p0.toNatClampNeg) (fun _ _ => none)] := fm_out (pr := [wd_Mo cs mo mr (fun _ => none) mf649 md (gMo PG hq), fm 8 (fPg cs PG)]) (T := fPr cs hq qr QO650 QF651 QA652) hw hi664
          have hps664 := hpr.1 p0.toNatClampNeg hi664
          have hpb664 := hps664.1
          unfold PsB at hpb664
          refine px_get S k_Mpr hT hw 3 0 10 (v := .int ((QF651 p0.toNatClampNeg) 10)) rfl rfl rfl (by decide) m11_1 d_Mo_ownCall_248 ?_
          refine lv_iload S.x S.b d_Mo_ownCall_251 (lv_at hl 0 rfl) ?_
          refine lv_isub S.x S.b d_Mo_ownCall_253 ?_
          have lr665 := Int32.le_toInt ((QF651 p0.toNatClampNeg) 10)
          have ur665 := Int32.toInt_lt ((QF651 p0.toNatClampNeg) 10)
          refine lv_topi (fun z666 ez666 => ?_)
          have tz666 : z666.toInt = (((QF651 p0.toNatClampNeg) 10).toInt - (2 : Int) + 2147483648) % 4294967296 - 2147483648 := by rw [ez666]; exact i_sub ((QF651 p0.toNatClampNeg) 10) 2
          have lz666 := Int32.le_toInt z666
          have uz666 := Int32.toInt_lt z666
          try replace tz666 : z666.toInt = ((QF651 p0.toNatClampNeg) 10).toInt - (2 : Int) := by omega
          refine px_put S k_Mpr hT hw 3 0 10 rfl rfl (by decide) m11_1 rfl rfl rfl (Nat.le_of_ble_eq_true rfl) d_Mo_ownCall_254 (w' := wd_Mpr cs (hq p0.toNatClampNeg) (qr p0.toNatClampNeg) (fun _ => QO650 p0.toNatClampNeg) (upd (QF651 p0.toNatClampNeg) 10 z666) (QA652 p0.toNatClampNeg) (fun _ _ => none)) (ps' := [wd_Mo cs mo mr (fun _ => none) mf649 md (gMo PG hq), fm 8 (fPg cs PG), fo 13 (fPr cs hq qr QO650 QF651 QA652) p0.toNatClampNeg, wd_Mpr cs (hq p0.toNatClampNeg) (qr p0.toNatClampNeg) (fun _ => QO650 p0.toNatClampNeg) (upd (QF651 p0.toNatClampNeg) 10 z666) (QA652 p0.toNatClampNeg) (fun _ _ => none)]) rfl rfl (fun H locs hw => ?_)
          refine lv_aload_n S.x S.b d_Mo_ownCall_257 rfl (lv_at hl 4 rfl) ?_
          refine lv_aload_n S.x S.b d_Mo_ownCall_258 rfl (lv_at hl 5 rfl) ?_
          refine px_get S k_Mo hT hw 0 0 9 (v := .int (mf649 9)) rfl rfl rfl (by decide) m11_87 d_Mo_ownCall_259 ?_
          refine px_callv (pr := [wd_Mo cs mo mr (fun _ => none) mf649 md (gMo PG hq), fm 8 (fPg cs PG), fo 13 (fPr cs hq qr QO650 QF651 QA652) p0.toNatClampNeg]) (px_runV (As := [.int (mf649 9)]) (rest := []) S (c_mq_give l D cs (hq p0.toNatClampNeg) (qr p0.toNatClampNeg) (fun _ _ => none) (fun _ => QO650 p0.toNatClampNeg) (upd (QF651 p0.toNatClampNeg) 10 z666) (QA652 p0.toNatClampNeg) (mf649 9)  (show 0 ≤ z666.toInt from by omega) (show z666.toInt < 62500 from by omega) _) hT (pr := [wd_Mo cs mo mr (fun _ => none) mf649 md (gMo PG hq), fm 8 (fPg cs PG), fo 13 (fPr cs hq qr QO650 QF651 QA652) p0.toNatClampNeg]) (pcs := [wd_Mpr cs (hq p0.toNatClampNeg) (qr p0.toNatClampNeg) (fun _ => QO650 p0.toNatClampNeg) (upd (QF651 p0.toNatClampNeg) 10 z666) (QA652 p0.toNatClampNeg) (fun _ _ => none)]) hw px_X.tt (px_recv hT hw 3 0 rfl rfl rfl) m13_161 m14_111 m13_159 m13_160 m1_22 q_Mpr_give ⟨Nat.le_of_ble_eq_true rfl, Nat.le_of_ble_eq_true rfl⟩ hl.1 rfl (Nat.le_of_ble_eq_true rfl) d_Mo_ownCall_262 ⟨Nat.le_of_ble_eq_true rfl, Nat.le_of_ble_eq_true rfl⟩) hw hA (fun p671 H locs hp671 hw => ?_)
          obtain ⟨qf669, qa670, rfl, e673, e674, e675, e676, e677, e678, e679, e680, e681, e682, e683, e684, e685, e686, e687, e688⟩ := hp671
          have e673 : (qf669 10).toInt = z666.toInt + 1 := e673
          have e674 : (qf669 1).toInt = ((QF651 p0.toNatClampNeg) 1).toInt := e674
          have e675 : (qf669 2).toInt = ((QF651 p0.toNatClampNeg) 2).toInt := e675
          have e676 : (qf669 3).toInt = ((QF651 p0.toNatClampNeg) 3).toInt := e676
          have e677 : (qf669 4).toInt = ((QF651 p0.toNatClampNeg) 4).toInt := e677
          have e678 : (qf669 5).toInt = ((QF651 p0.toNatClampNeg) 5).toInt := e678
          have e679 : (qf669 6).toInt = ((QF651 p0.toNatClampNeg) 6).toInt := e679
          have e680 : (qf669 7).toInt = ((QF651 p0.toNatClampNeg) 7).toInt := e680
          have e681 : (qf669 11).toInt = ((QF651 p0.toNatClampNeg) 11).toInt := e681
          have e682 : (qf669 12).toInt = ((QF651 p0.toNatClampNeg) 12).toInt := e682
          have e683 : (qf669 13).toInt = ((QF651 p0.toNatClampNeg) 13).toInt := e683
          have e684 : (qf669 14).toInt = ((QF651 p0.toNatClampNeg) 14).toInt := e684
          have e685 : (qf669 21).toInt = ((QF651 p0.toNatClampNeg) 21).toInt := e685
          have e686 : (qf669 23).toInt = ((QF651 p0.toNatClampNeg) 23).toInt := e686
          have e687 : (qf669 24).toInt = ((QF651 p0.toNatClampNeg) 24).toInt := e687
          have e688 : NuU (QA652 p0.toNatClampNeg) qa670 9 z666.toInt (mf649 9) := e688
          skip
          have hw : pw D A s.heap H locs [wd_Mo cs mo mr (fun _ => none) mf649 md (gMo PG hq), fm 8 (fPg cs PG), fo 13 (fPr cs hq qr QO650 QF651 QA652) p0.toNatClampNeg, wd_Mpr cs (hq p0.toNatClampNeg) (qr p0.toNatClampNeg) (fun _ => QO650 p0.toNatClampNeg) qf669 qa670 (fun _ _ => none)] := hw
          refine lv_iload S.x S.b d_Mo_ownCall_265 (lv_at hl 1 rfl) ?_
          have hw := fpr_in (pr := [wd_Mo cs mo mr (fun _ => none) mf649 md (gMo PG hq), fm 8 (fPg cs PG)]) hw hi664
          obtain ⟨QO689, hu_QO689⟩ : ∃ y : Nat → Option Nat, y = va_up QO650 p0.toNatClampNeg ((fun _ => QO650 p0.toNatClampNeg) 0) := ⟨_, rfl⟩
          obtain ⟨QF690, hu_QF690⟩ : ∃ y : Nat → Nat → Int32, y = va_up QF651 p0.toNatClampNeg qf669 := ⟨_, rfl⟩
          obtain ⟨QA691, hu_QA691⟩ : ∃ y : Nat → Nat → Nat → Int32, y = va_up QA652 p0.toNatClampNeg qa670 := ⟨_, rfl⟩
          have hw : pw D A s.heap _ _ [wd_Mo cs mo mr (fun _ => none) mf649 md (gMo PG hq), fm 8 (fPg cs PG), fm 13 (fPr cs hq qr QO689 QF690 QA691)] := (by rw [hu_QO689, hu_QF690, hu_QA691]; exact hw)
          have hpx : PrX PG RR QO689 QF690 QA691 p0.toNatClampNeg := (by rw [hu_QO689, hu_QF690, hu_QA691]; exact PrX.up (hpr.px hi664) (show (0 ≤ (qf669 1).toInt ∧ (qf669 1).toInt ≤ 1) ∧ (0 ≤ (qf669 21).toInt ∧ (qf669 21).toInt ≤ 4) ∧ (0 ≤ (qf669 23).toInt ∧ (qf669 23).toInt ≤ 4) ∧ (0 ≤ (qf669 24).toInt ∧ (qf669 24).toInt ≤ 1000000) ∧ (0 ≤ (qf669 6).toInt ∧ (qf669 6).toInt ≤ 3) ∧ (0 ≤ (qf669 7).toInt ∧ (qf669 7).toInt ≤ 1) from by omega) (show (qf669 1).toInt = (QF651 p0.toNatClampNeg 1).toInt from by first | exact oz_1811ac7fe4 e674 | omega) (show (QF651 p0.toNatClampNeg 6).toInt ≤ (qf669 6).toInt from by first | exact oz_f9b42d1b56 e679 | omega))
          have hpd : PdT (PG j9) (RR p0.toNatClampNeg) (QF690 p0.toNatClampNeg) (QA691 p0.toNatClampNeg) := (by rw [hu_QF690, hu_QA691, va_up_s, va_up_s]; exact PoT.ans hpo (show (qf669 4).toInt = (QF p0.toNatClampNeg 4).toInt ∧ (qf669 5).toInt = (QF p0.toNatClampNeg 5).toInt ∧ (qf669 11).toInt = (QF p0.toNatClampNeg 11).toInt ∧ (qf669 12).toInt = (QF p0.toNatClampNeg 12).toInt ∧ (qf669 13).toInt = (QF p0.toNatClampNeg 13).toInt ∧ (qf669 14).toInt = (QF p0.toNatClampNeg 14).toInt from by omega) (show (qf669 10).toInt = (QF p0.toNatClampNeg 10).toInt - ((oslots p1.toInt).length : Int) + 1 from by omega) (show (qf669 24).toInt = (QF p0.toNatClampNeg 24).toInt ∨ (p1.toInt = 1 ∧ (qf669 24).toInt = (QF p0.toNatClampNeg 24).toInt + 1) from by omega) (fun i9 q9 => absurd (by rw [hkp.2.2 8 (by decide) (by decide)]) q9) (fun k9 a9 b9 c9 d9 => hkp.2.2 k9 b9 c9) (show NuU _ _ 9 ((QF p0.toNatClampNeg 10).toInt - ((oslots p1.toInt).length : Int)) _ from (by have q8 := e688; rw [show (z666.toInt) = (QF p0.toNatClampNeg 10).toInt - ((oslots p1.toInt).length : Int) by omega] at q8; exact q8)))
          have hko : KpO QO QF QO689 QF690 p0.toNatClampNeg := (by rw [hu_QO689, hu_QF690]; refine ⟨by rw [va_up_s]; first | done | exact hkp.1, ?_⟩; rw [va_up_s]; exact (show (qf669 1).toInt = (QF p0.toNatClampNeg 1).toInt ∧ (qf669 7).toInt = (QF p0.toNatClampNeg 7).toInt ∧ (qf669 11).toInt = (QF p0.toNatClampNeg 11).toInt from by omega))
          have hw : pw D A s.heap _ _ [wd_Mo cs mo mr (fun _ => none) mf649 md (gMo PG hq), fm 13 (fPr cs hq qr QO689 QF690 QA691), fm 8 (fPg cs PG)] := hw.sub [0, 2, 1] rfl rfl
          exact px_iret (v := 1) S hr rfl hlk hAe hw (Nat.le_of_ble_eq_true rfl) (Nat.le_of_ble_eq_true rfl) (⟨mf649, md, QO689, QF690, QA691, rfl, (show 0 ≤ (1 : Int) from by first | exact oz_19c3a41681 | omega), (show (1 : Int) ≤ 1 from by first | exact oz_f9181dc4bb | omega), (show OwQ (1 : Int) (PrA PG RR QO689 QF690 QA691) (PrX PG RR QO689 QF690 QA691 p0.toNatClampNeg ∧ PdT (PG j9) (RR p0.toNatClampNeg) (QF690 p0.toNatClampNeg) (QA691 p0.toNatClampNeg)) from (Or.inr ⟨by omega, hpx, hpd⟩)), (show KpO QO QF QO689 QF690 p0.toNatClampNeg from hko), (show (mf649 0).toInt = (mf 0).toInt from by first | exact e657 | omega), (show (mf649 2).toInt = (mf 2).toInt from by first | exact e658 | omega), (show (mf649 3).toInt = (mf 3).toInt from by first | exact e659 | omega), (show (mf649 7).toInt = (mf 7).toInt from by first | exact e660 | omega), (show (mf649 8).toInt = (mf 8).toInt from by first | exact e661 | omega), (show (mf649 10).toInt = (mf 10).toInt from by first | exact e662 | omega), (show Md1 md md from hmdq)⟩) d_Mo_ownCall_267
      · simp only [List.mem_cons, List.not_mem_nil, or_false] at c424
        refine lv_aload_n S.x S.b d_Mo_ownCall_185 rfl (lv_at hl 5 rfl) ?_
        refine lv_iload_n S.x S.b d_Mo_ownCall_186 rfl (lv_at hl 6 rfl) ?_
        refine lv_iload S.x S.b d_Mo_ownCall_187 (lv_at hl 3 rfl) ?_
        have hw : pw D A s.heap _ _ [wd_Mo cs mo mr (fun _ => none) (upd mf 9 0) md (gMo PG hq), fm 8 (fPg cs PG), fm 13 (fPr cs hq qr QO QF QA)] := fm_back (pr := [wd_Mo cs mo mr (fun _ => none) (upd mf 9 0) md (gMo PG hq), fm 8 (fPg cs PG)]) (T := fPr cs hq qr QO QF QA) hw hi1
        have hw : pw D A s.heap _ _ [wd_Mo cs mo mr (fun _ => none) (upd mf 9 0) md (gMo PG hq), fm 13 (fPr cs hq qr QO QF QA), fm 8 (fPg cs PG)] := hw.sub [0, 2, 1] rfl rfl
        refine px_calli (pr := []) (px_runV (As := [.int p0, .int z4]) (rest := []) S (c_mo_waits l D cs RR mo mr md (upd mf 9 0) hq qr QO QF QA PG p0 z4  (show 0 ≤ p0.toInt from by first | exact g0 | omega) (show p0.toInt < 13 from by first | exact g1 | omega) hpr hpg _) hT (pr := []) (pcs := [wd_Mo cs mo mr (fun _ => none) (upd mf 9 0) md (gMo PG hq), fm 13 (fPr cs hq qr QO QF QA), fm 8 (fPg cs PG)]) hw px_X.tt (px_recv hT hw 0 0 rfl rfl rfl) m14_86 m14_83 m14_85 ms_16_6 m1_20 q_Mo_waits ⟨Nat.le_of_ble_eq_true rfl, Nat.le_of_ble_eq_true rfl⟩ hl.1 rfl (Nat.le_of_ble_eq_true rfl) d_Mo_ownCall_189 ⟨Nat.le_of_ble_eq_true rfl, Nat.le_of_ble_eq_true rfl⟩) hw hA (fun v701 p700 H locs hp700 hw => ?_)
        obtain ⟨mf696, QO697, QF698, QA699, rfl, e702, e703, e704, e705, e706, e707, e708, e709, e710, e711⟩ := hp700
        have e702 : PrA PG RR QO697 QF698 QA699 := e702
        have hpr := e702
        have e703 : KpP QO QF QA QO697 QF698 QA699 p0.toNatClampNeg := e703
        have hkp := hkp.tr e703
        have e704 : (mf696 0).toInt = (mf 0).toInt := e704
        have e705 : (mf696 2).toInt = (mf 2).toInt := e705
        have e706 : (mf696 3).toInt = (mf 3).toInt := e706
        have e707 : (mf696 7).toInt = (mf 7).toInt := e707
        have e708 : (mf696 8).toInt = (mf 8).toInt := e708
        have e709 : (mf696 10).toInt = (mf 10).toInt := e709
        have e710 : 0 ≤ v701.toInt := e710
        have e711 : v701.toInt ≤ 1 := e711
        have hw : pw D A s.heap H locs [wd_Mo cs mo mr (fun _ => none) mf696 md (gMo PG hq), fm 13 (fPr cs hq qr QO697 QF698 QA699), fm 8 (fPg cs PG)] := hw
        have lv701 := Int32.le_toInt v701
        have uv701 := Int32.toInt_lt v701
        refine lv_istore (lv' := [(6, .int v701), (7, .int 1), (5, .int z376), (4, .int z4), (3, .ref (hq p0.toNatClampNeg)), (0, .ref mo), (1, .int p0), (2, .int p1)]) S.x S.b d_Mo_ownCall_192 hl (by decide) rfl (fun ls hl => ?_)
        refine lv_goto (tgt := 241) S.x S.b d_Mo_ownCall_194 (by decide) ?_
        refine lv_iload S.x S.b d_Mo_ownCall_241 (lv_at hl 0 rfl) ?_
        refine lv_if_eq (tgt := 265) S.x S.b d_Mo_ownCall_243 (by decide) (fun c712 => ?_) (fun c712 => ?_)
        · have nc712 : v701.toInt = (0 : Int) := (i_eq (x := v701) (y := 0)).mp c712
          refine lv_iload S.x S.b d_Mo_ownCall_265 (lv_at hl 0 rfl) ?_
          exact px_iret (v := v701) S hr (z_nar (by omega)) hlk hAe hw (Nat.le_of_ble_eq_true rfl) (Nat.le_of_ble_eq_true rfl) (⟨mf696, md, QO697, QF698, QA699, rfl, (show 0 ≤ v701.toInt from by first | exact e710 | omega), (show v701.toInt ≤ 1 from by first | exact e711 | omega), (show OwQ v701.toInt (PrA PG RR QO697 QF698 QA699) (PrX PG RR QO697 QF698 QA699 p0.toNatClampNeg ∧ PdT (PG j9) (RR p0.toNatClampNeg) (QF698 p0.toNatClampNeg) (QA699 p0.toNatClampNeg)) from (Or.inl ⟨by omega, hpr⟩)), (show KpO QO QF QO697 QF698 p0.toNatClampNeg from hkp.o), (show (mf696 0).toInt = (mf 0).toInt from by first | exact e704 | omega), (show (mf696 2).toInt = (mf 2).toInt from by first | exact e705 | omega), (show (mf696 3).toInt = (mf 3).toInt from by first | exact e706 | omega), (show (mf696 7).toInt = (mf 7).toInt from by first | exact e707 | omega), (show (mf696 8).toInt = (mf 8).toInt from by first | exact e708 | omega), (show (mf696 10).toInt = (mf 10).toInt from by first | exact e709 | omega), (show Md1 md md from hmdq)⟩) d_Mo_ownCall_267
        · have nc712 : ¬ v701.toInt = (0 : Int) := mt (i_eq (x := v701) (y := 0)).mpr c712
          refine lv_aload_n S.x S.b d_Mo_ownCall_246 rfl (lv_at hl 4 rfl) ?_
          have hkf := hkp.2.1; unfold KpF at hkf
          refine lv_aload_n S.x S.b d_Mo_ownCall_247 rfl (lv_at hl 4 rfl) ?_
          have hw : pw D A s.heap _ _ [wd_Mo cs mo mr (fun _ => none) mf696 md (gMo PG hq), fm 8 (fPg cs PG), fm 13 (fPr cs hq qr QO697 QF698 QA699)] := hw.sub [0, 2, 1] rfl rfl
          have hc714 := cl_nat (x := p0) (by first | exact g0 | omega)
          have hi714 : p0.toNatClampNeg < 13 := by first | exact hi1 | omega
          have hw : pw D A s.heap _ _ [wd_Mo cs mo mr (fun _ => none) mf696 md (gMo PG hq), fm 8 (fPg cs PG), fo 13 (fPr cs hq qr QO697 QF698 QA699) p0.toNatClampNeg, wd_Mpr cs (hq p0.toNatClampNeg) (qr p0.toNatClampNeg) (fun _ => QO697 p0.toNatClampNeg) (QF698 p0.toNatClampNeg) (QA699 p0.toNatClampNeg) (fun _ _ => none)] := fm_out (pr := [wd_Mo cs mo mr (fun _ => none) mf696 md (gMo PG hq), fm 8 (fPg cs PG)]) (T := fPr cs hq qr QO697 QF698 QA699) hw hi714
          have hps714 := hpr.1 p0.toNatClampNeg hi714
          have hpb714 := hps714.1
          unfold PsB at hpb714
          refine px_get S k_Mpr hT hw 3 0 10 (v := .int ((QF698 p0.toNatClampNeg) 10)) rfl rfl rfl (by decide) m11_1 d_Mo_ownCall_248 ?_
          refine lv_iload S.x S.b d_Mo_ownCall_251 (lv_at hl 1 rfl) ?_
          refine lv_isub S.x S.b d_Mo_ownCall_253 ?_
          have lr715 := Int32.le_toInt ((QF698 p0.toNatClampNeg) 10)
          have ur715 := Int32.toInt_lt ((QF698 p0.toNatClampNeg) 10)
          refine lv_topi (fun z716 ez716 => ?_)
          have tz716 : z716.toInt = (((QF698 p0.toNatClampNeg) 10).toInt - (1 : Int) + 2147483648) % 4294967296 - 2147483648 := by rw [ez716]; exact i_sub ((QF698 p0.toNatClampNeg) 10) 1
          have lz716 := Int32.le_toInt z716
          have uz716 := Int32.toInt_lt z716
          try replace tz716 : z716.toInt = ((QF698 p0.toNatClampNeg) 10).toInt - (1 : Int) := by omega
          refine px_put S k_Mpr hT hw 3 0 10 rfl rfl (by decide) m11_1 rfl rfl rfl (Nat.le_of_ble_eq_true rfl) d_Mo_ownCall_254 (w' := wd_Mpr cs (hq p0.toNatClampNeg) (qr p0.toNatClampNeg) (fun _ => QO697 p0.toNatClampNeg) (upd (QF698 p0.toNatClampNeg) 10 z716) (QA699 p0.toNatClampNeg) (fun _ _ => none)) (ps' := [wd_Mo cs mo mr (fun _ => none) mf696 md (gMo PG hq), fm 8 (fPg cs PG), fo 13 (fPr cs hq qr QO697 QF698 QA699) p0.toNatClampNeg, wd_Mpr cs (hq p0.toNatClampNeg) (qr p0.toNatClampNeg) (fun _ => QO697 p0.toNatClampNeg) (upd (QF698 p0.toNatClampNeg) 10 z716) (QA699 p0.toNatClampNeg) (fun _ _ => none)]) rfl rfl (fun H locs hw => ?_)
          refine lv_aload_n S.x S.b d_Mo_ownCall_257 rfl (lv_at hl 4 rfl) ?_
          refine lv_aload_n S.x S.b d_Mo_ownCall_258 rfl (lv_at hl 5 rfl) ?_
          refine px_get S k_Mo hT hw 0 0 9 (v := .int (mf696 9)) rfl rfl rfl (by decide) m11_87 d_Mo_ownCall_259 ?_
          refine px_callv (pr := [wd_Mo cs mo mr (fun _ => none) mf696 md (gMo PG hq), fm 8 (fPg cs PG), fo 13 (fPr cs hq qr QO697 QF698 QA699) p0.toNatClampNeg]) (px_runV (As := [.int (mf696 9)]) (rest := []) S (c_mq_give l D cs (hq p0.toNatClampNeg) (qr p0.toNatClampNeg) (fun _ _ => none) (fun _ => QO697 p0.toNatClampNeg) (upd (QF698 p0.toNatClampNeg) 10 z716) (QA699 p0.toNatClampNeg) (mf696 9)  (show 0 ≤ z716.toInt from by omega) (show z716.toInt < 62500 from by omega) _) hT (pr := [wd_Mo cs mo mr (fun _ => none) mf696 md (gMo PG hq), fm 8 (fPg cs PG), fo 13 (fPr cs hq qr QO697 QF698 QA699) p0.toNatClampNeg]) (pcs := [wd_Mpr cs (hq p0.toNatClampNeg) (qr p0.toNatClampNeg) (fun _ => QO697 p0.toNatClampNeg) (upd (QF698 p0.toNatClampNeg) 10 z716) (QA699 p0.toNatClampNeg) (fun _ _ => none)]) hw px_X.tt (px_recv hT hw 3 0 rfl rfl rfl) m13_161 m14_111 m13_159 m13_160 m1_22 q_Mpr_give ⟨Nat.le_of_ble_eq_true rfl, Nat.le_of_ble_eq_true rfl⟩ hl.1 rfl (Nat.le_of_ble_eq_true rfl) d_Mo_ownCall_262 ⟨Nat.le_of_ble_eq_true rfl, Nat.le_of_ble_eq_true rfl⟩) hw hA (fun p721 H locs hp721 hw => ?_)
          obtain ⟨qf719, qa720, rfl, e723, e724, e725, e726, e727, e728, e729, e730, e731, e732, e733, e734, e735, e736, e737, e738⟩ := hp721
          have e723 : (qf719 10).toInt = z716.toInt + 1 := e723
          have e724 : (qf719 1).toInt = ((QF698 p0.toNatClampNeg) 1).toInt := e724
          have e725 : (qf719 2).toInt = ((QF698 p0.toNatClampNeg) 2).toInt := e725
          have e726 : (qf719 3).toInt = ((QF698 p0.toNatClampNeg) 3).toInt := e726
          have e727 : (qf719 4).toInt = ((QF698 p0.toNatClampNeg) 4).toInt := e727
          have e728 : (qf719 5).toInt = ((QF698 p0.toNatClampNeg) 5).toInt := e728
          have e729 : (qf719 6).toInt = ((QF698 p0.toNatClampNeg) 6).toInt := e729
          have e730 : (qf719 7).toInt = ((QF698 p0.toNatClampNeg) 7).toInt := e730
          have e731 : (qf719 11).toInt = ((QF698 p0.toNatClampNeg) 11).toInt := e731
          have e732 : (qf719 12).toInt = ((QF698 p0.toNatClampNeg) 12).toInt := e732
          have e733 : (qf719 13).toInt = ((QF698 p0.toNatClampNeg) 13).toInt := e733
          have e734 : (qf719 14).toInt = ((QF698 p0.toNatClampNeg) 14).toInt := e734
          have e735 : (qf719 21).toInt = ((QF698 p0.toNatClampNeg) 21).toInt := e735
          have e736 : (qf719 23).toInt = ((QF698 p0.toNatClampNeg) 23).toInt := e736
          have e737 : (qf719 24).toInt = ((QF698 p0.toNatClampNeg) 24).toInt := e737
          have e738 : NuU (QA699 p0.toNatClampNeg) qa720 9 z716.toInt (mf696 9) := e738
          skip
          have hw : pw D A s.heap H locs [wd_Mo cs mo mr (fun _ => none) mf696 md (gMo PG hq), fm 8 (fPg cs PG), fo 13 (fPr cs hq qr QO697 QF698 QA699) p0.toNatClampNeg, wd_Mpr cs (hq p0.toNatClampNeg) (qr p0.toNatClampNeg) (fun _ => QO697 p0.toNatClampNeg) qf719 qa720 (fun _ _ => none)] := hw
          refine lv_iload S.x S.b d_Mo_ownCall_265 (lv_at hl 0 rfl) ?_
          have hw := fpr_in (pr := [wd_Mo cs mo mr (fun _ => none) mf696 md (gMo PG hq), fm 8 (fPg cs PG)]) hw hi714
          obtain ⟨QO739, hu_QO739⟩ : ∃ y : Nat → Option Nat, y = va_up QO697 p0.toNatClampNeg ((fun _ => QO697 p0.toNatClampNeg) 0) := ⟨_, rfl⟩
          obtain ⟨QF740, hu_QF740⟩ : ∃ y : Nat → Nat → Int32, y = va_up QF698 p0.toNatClampNeg qf719 := ⟨_, rfl⟩
          obtain ⟨QA741, hu_QA741⟩ : ∃ y : Nat → Nat → Nat → Int32, y = va_up QA699 p0.toNatClampNeg qa720 := ⟨_, rfl⟩
          have hw : pw D A s.heap _ _ [wd_Mo cs mo mr (fun _ => none) mf696 md (gMo PG hq), fm 8 (fPg cs PG), fm 13 (fPr cs hq qr QO739 QF740 QA741)] := (by rw [hu_QO739, hu_QF740, hu_QA741]; exact hw)
          have hpx : PrX PG RR QO739 QF740 QA741 p0.toNatClampNeg := (by rw [hu_QO739, hu_QF740, hu_QA741]; exact PrX.up (hpr.px hi714) (show (0 ≤ (qf719 1).toInt ∧ (qf719 1).toInt ≤ 1) ∧ (0 ≤ (qf719 21).toInt ∧ (qf719 21).toInt ≤ 4) ∧ (0 ≤ (qf719 23).toInt ∧ (qf719 23).toInt ≤ 4) ∧ (0 ≤ (qf719 24).toInt ∧ (qf719 24).toInt ≤ 1000000) ∧ (0 ≤ (qf719 6).toInt ∧ (qf719 6).toInt ≤ 3) ∧ (0 ≤ (qf719 7).toInt ∧ (qf719 7).toInt ≤ 1) from by omega) (show (qf719 1).toInt = (QF698 p0.toNatClampNeg 1).toInt from by first | exact oz_1811ac7fe4 e724 | omega) (show (QF698 p0.toNatClampNeg 6).toInt ≤ (qf719 6).toInt from by first | exact oz_f9b42d1b56 e729 | omega))
          have hpd : PdT (PG j9) (RR p0.toNatClampNeg) (QF740 p0.toNatClampNeg) (QA741 p0.toNatClampNeg) := (by rw [hu_QF740, hu_QA741, va_up_s, va_up_s]; exact PoT.ans hpo (show (qf719 4).toInt = (QF p0.toNatClampNeg 4).toInt ∧ (qf719 5).toInt = (QF p0.toNatClampNeg 5).toInt ∧ (qf719 11).toInt = (QF p0.toNatClampNeg 11).toInt ∧ (qf719 12).toInt = (QF p0.toNatClampNeg 12).toInt ∧ (qf719 13).toInt = (QF p0.toNatClampNeg 13).toInt ∧ (qf719 14).toInt = (QF p0.toNatClampNeg 14).toInt from by omega) (show (qf719 10).toInt = (QF p0.toNatClampNeg 10).toInt - ((oslots p1.toInt).length : Int) + 1 from by omega) (show (qf719 24).toInt = (QF p0.toNatClampNeg 24).toInt ∨ (p1.toInt = 1 ∧ (qf719 24).toInt = (QF p0.toNatClampNeg 24).toInt + 1) from by omega) (fun i9 q9 => absurd (by rw [hkp.2.2 8 (by decide) (by decide)]) q9) (fun k9 a9 b9 c9 d9 => hkp.2.2 k9 b9 c9) (show NuU _ _ 9 ((QF p0.toNatClampNeg 10).toInt - ((oslots p1.toInt).length : Int)) _ from (by have q8 := e738; rw [show (z716.toInt) = (QF p0.toNatClampNeg 10).toInt - ((oslots p1.toInt).length : Int) by omega] at q8; exact q8)))
          have hko : KpO QO QF QO739 QF740 p0.toNatClampNeg := (by rw [hu_QO739, hu_QF740]; refine ⟨by rw [va_up_s]; first | done | exact hkp.1, ?_⟩; rw [va_up_s]; exact (show (qf719 1).toInt = (QF p0.toNatClampNeg 1).toInt ∧ (qf719 7).toInt = (QF p0.toNatClampNeg 7).toInt ∧ (qf719 11).toInt = (QF p0.toNatClampNeg 11).toInt from by omega))
          have hw : pw D A s.heap _ _ [wd_Mo cs mo mr (fun _ => none) mf696 md (gMo PG hq), fm 13 (fPr cs hq qr QO739 QF740 QA741), fm 8 (fPg cs PG)] := hw.sub [0, 2, 1] rfl rfl
          exact px_iret (v := v701) S hr (z_nar (by omega)) hlk hAe hw (Nat.le_of_ble_eq_true rfl) (Nat.le_of_ble_eq_true rfl) (⟨mf696, md, QO739, QF740, QA741, rfl, (show 0 ≤ v701.toInt from by first | exact e710 | omega), (show v701.toInt ≤ 1 from by first | exact e711 | omega), (show OwQ v701.toInt (PrA PG RR QO739 QF740 QA741) (PrX PG RR QO739 QF740 QA741 p0.toNatClampNeg ∧ PdT (PG j9) (RR p0.toNatClampNeg) (QF740 p0.toNatClampNeg) (QA741 p0.toNatClampNeg)) from (Or.inr ⟨by omega, hpx, hpd⟩)), (show KpO QO QF QO739 QF740 p0.toNatClampNeg from hko), (show (mf696 0).toInt = (mf 0).toInt from by first | exact e704 | omega), (show (mf696 2).toInt = (mf 2).toInt from by first | exact e705 | omega), (show (mf696 3).toInt = (mf 3).toInt from by first | exact e706 | omega), (show (mf696 7).toInt = (mf 7).toInt from by first | exact e707 | omega), (show (mf696 8).toInt = (mf 8).toInt from by first | exact e708 | omega), (show (mf696 10).toInt = (mf 10).toInt from by first | exact e709 | omega), (show Md1 md md from hmdq)⟩) d_Mo_ownCall_267
      · simp only [List.mem_cons, List.not_mem_nil, or_false] at c424
        refine lv_aload_n S.x S.b d_Mo_ownCall_197 rfl (lv_at hl 5 rfl) ?_
        refine lv_iload_n S.x S.b d_Mo_ownCall_198 rfl (lv_at hl 6 rfl) ?_
        refine lv_iload_n S.x S.b d_Mo_ownCall_199 rfl (lv_at hl 7 rfl) ?_
        refine lv_bipush (v := 7) S.x S.b d_Mo_ownCall_200 (by decide) ?_
        refine lv_icmp_ne (tgt := 209) S.x S.b d_Mo_ownCall_202 (by decide) (fun c742 => ?_) (fun c742 => ?_)
        · have nc742 : ¬ p1.toInt = (7 : Int) := mt (i_eq (x := p1) (y := 7)).mpr c742
          refine lv_iconst (v := 0) S.x S.b d_Mo_ownCall_209 (by decide) ?_
          refine lv_aload_n S.x S.b d_Mo_ownCall_210 rfl (lv_at hl 4 rfl) ?_
          refine px_get S k_Mpr hT hw 3 0 9 (v := .ref ((qr p0.toNatClampNeg) 9)) rfl rfl rfl (by decide) m10_239 d_Mo_ownCall_211 ?_
          refine lv_aload_n S.x S.b d_Mo_ownCall_214 rfl (lv_at hl 4 rfl) ?_
          refine px_get S k_Mpr hT hw 3 0 10 (v := .int ((QF p0.toNatClampNeg) 10)) rfl rfl rfl (by decide) m11_1 d_Mo_ownCall_215 ?_
          refine lv_iconst (v := 3) S.x S.b d_Mo_ownCall_218 (by decide) ?_
          refine lv_isub S.x S.b d_Mo_ownCall_219 ?_
          have lr744 := Int32.le_toInt ((QF p0.toNatClampNeg) 10)
          have ur744 := Int32.toInt_lt ((QF p0.toNatClampNeg) 10)
          refine lv_topi (fun z745 ez745 => ?_)
          have tz745 : z745.toInt = (((QF p0.toNatClampNeg) 10).toInt - (3 : Int) + 2147483648) % 4294967296 - 2147483648 := by rw [ez745]; exact i_sub ((QF p0.toNatClampNeg) 10) 3
          have lz745 := Int32.le_toInt z745
          have uz745 := Int32.toInt_lt z745
          try replace tz745 : z745.toInt = ((QF p0.toNatClampNeg) 10).toInt - (3 : Int) := by omega
          refine px_iald S hT hw 3 2 (n := 62500) (f := ((QA p0.toNatClampNeg) 9)) rfl (ga_Mpr_9 _ _ _ _ _ _ _) (x := z745) (vp_in_iff.mpr (by constructor <;> omega)) d_Mo_ownCall_220 ?_
          refine lv_topi (fun z746 ez746 => ?_)
          have lz746 := Int32.le_toInt z746
          have uz746 := Int32.toInt_lt z746
          have hmv9 : ∀ c : Int, z376.toInt ≤ c → c < z376.toInt + z4.toInt → 0 ≤ c ∧ c < 37000 := (by rw [hx5, hx4]; exact hpo.arr (by omega))
          refine lv_iload S.x S.b d_Mo_ownCall_221 (lv_at hl 2 rfl) ?_
          refine lv_iload S.x S.b d_Mo_ownCall_223 (lv_at hl 3 rfl) ?_
          have hw : pw D A s.heap _ _ [wd_Mo cs mo mr (fun _ => none) (upd mf 9 0) md (gMo PG hq), fm 8 (fPg cs PG), fm 13 (fPr cs hq qr QO QF QA)] := fm_back (pr := [wd_Mo cs mo mr (fun _ => none) (upd mf 9 0) md (gMo PG hq), fm 8 (fPg cs PG)]) (T := fPr cs hq qr QO QF QA) hw hi1
          have hw : pw D A s.heap _ _ [wd_Mo cs mo mr (fun _ => none) (upd mf 9 0) md (gMo PG hq), fm 13 (fPr cs hq qr QO QF QA), fm 8 (fPg cs PG)] := hw.sub [0, 2, 1] rfl rfl
          refine px_callv (pr := []) (px_runV (As := [.int p0, .int 0, .int z746, .int z376, .int z4]) (rest := []) S (c_mo_moveArray l D cs RR mo mr (upd mf 9 0) md hq qr QO QF QA PG p0 0 z746 z376 z4  (show 0 ≤ p0.toInt from by first | exact g0 | omega) (show p0.toInt < 13 from by first | exact g1 | omega) hpr hpg hmv9 _) hT (pr := []) (pcs := [wd_Mo cs mo mr (fun _ => none) (upd mf 9 0) md (gMo PG hq), fm 13 (fPr cs hq qr QO QF QA), fm 8 (fPg cs PG)]) hw px_X.tt (px_recv hT hw 0 0 rfl rfl rfl) m14_110 m14_107 m14_109 ms_16_10 m1_20 q_Mo_moveArray ⟨Nat.le_of_ble_eq_true rfl, Nat.le_of_ble_eq_true rfl⟩ hl.1 rfl (Nat.le_of_ble_eq_true rfl) d_Mo_ownCall_225 ⟨Nat.le_of_ble_eq_true rfl, Nat.le_of_ble_eq_true rfl⟩) hw hA (fun p757 H locs hp757 hw => ?_)
          obtain ⟨mf752, md753, QO754, QF755, QA756, rfl, e759, e760, e761, e762, e763, e764, e765, e766, e767, e768⟩ := hp757
          have e759 : PrX PG RR QO754 QF755 QA756 p0.toNatClampNeg := e759
          have hpx := e759
          have e760 : KpM QO QF QA QO754 QF755 QA756 p0.toNatClampNeg z376.toInt z4.toInt := e760
          have hkm := e760
          have e761 : (mf752 0).toInt = (mf 0).toInt := e761
          have e762 : (mf752 2).toInt = (mf 2).toInt := e762
          have e763 : (mf752 3).toInt = (mf 3).toInt := e763
          have e764 : (mf752 7).toInt = (mf 7).toInt := e764
          have e765 : (mf752 8).toInt = (mf 8).toInt := e765
          have e766 : (mf752 9).toInt = (0 : Int) := e766
          have e767 : (mf752 10).toInt = (mf 10).toInt := e767
          have e768 : Md1 md md753 := e768
          have hmdq := Md1.tr hmdq e768
          have hw : pw D A s.heap H locs [wd_Mo cs mo mr (fun _ => none) mf752 md753 (gMo PG hq), fm 13 (fPr cs hq qr QO754 QF755 QA756), fm 8 (fPg cs PG)] := hw
          refine lv_iconst (v := 3) S.x S.b d_Mo_ownCall_228 (by decide) ?_
          refine lv_istore (lv' := [(7, .int 3), (6, .int 1), (5, .int z376), (4, .int z4), (3, .ref (hq p0.toNatClampNeg)), (0, .ref mo), (1, .int p0), (2, .int p1)]) S.x S.b d_Mo_ownCall_229 hl (by decide) rfl (fun ls hl => ?_)
          refine lv_goto (tgt := 241) S.x S.b d_Mo_ownCall_231 (by decide) ?_
          refine lv_iload S.x S.b d_Mo_ownCall_241 (lv_at hl 1 rfl) ?_
          refine lv_if_eq (tgt := 265) S.x S.b d_Mo_ownCall_243 (by decide) (fun c769 => ?_) (fun c769 => ?_)
          · exact absurd c769 (by decide)
          ·
            refine lv_aload_n S.x S.b d_Mo_ownCall_246 rfl (lv_at hl 4 rfl) ?_
            have hkf := hkm.2.1; unfold KpF at hkf
            refine lv_aload_n S.x S.b d_Mo_ownCall_247 rfl (lv_at hl 4 rfl) ?_
            have hw : pw D A s.heap _ _ [wd_Mo cs mo mr (fun _ => none) mf752 md753 (gMo PG hq), fm 8 (fPg cs PG), fm 13 (fPr cs hq qr QO754 QF755 QA756)] := hw.sub [0, 2, 1] rfl rfl
            have hc770 := cl_nat (x := p0) (by first | exact g0 | omega)
            have hi770 : p0.toNatClampNeg < 13 := by first | exact hi1 | omega
            have hw : pw D A s.heap _ _ [wd_Mo cs mo mr (fun _ => none) mf752 md753 (gMo PG hq), fm 8 (fPg cs PG), fo 13 (fPr cs hq qr QO754 QF755 QA756) p0.toNatClampNeg, wd_Mpr cs (hq p0.toNatClampNeg) (qr p0.toNatClampNeg) (fun _ => QO754 p0.toNatClampNeg) (QF755 p0.toNatClampNeg) (QA756 p0.toNatClampNeg) (fun _ _ => none)] := fm_out (pr := [wd_Mo cs mo mr (fun _ => none) mf752 md753 (gMo PG hq), fm 8 (fPg cs PG)]) (T := fPr cs hq qr QO754 QF755 QA756) hw hi770
            have hpb770 := hpx.2.2
            unfold PsB at hpb770
            refine px_get S k_Mpr hT hw 3 0 10 (v := .int ((QF755 p0.toNatClampNeg) 10)) rfl rfl rfl (by decide) m11_1 d_Mo_ownCall_248 ?_
            refine lv_iload S.x S.b d_Mo_ownCall_251 (lv_at hl 0 rfl) ?_
            refine lv_isub S.x S.b d_Mo_ownCall_253 ?_
            have lr771 := Int32.le_toInt ((QF755 p0.toNatClampNeg) 10)
            have ur771 := Int32.toInt_lt ((QF755 p0.toNatClampNeg) 10)
            refine lv_topi (fun z772 ez772 => ?_)
            have tz772 : z772.toInt = (((QF755 p0.toNatClampNeg) 10).toInt - (3 : Int) + 2147483648) % 4294967296 - 2147483648 := by rw [ez772]; exact i_sub ((QF755 p0.toNatClampNeg) 10) 3
            have lz772 := Int32.le_toInt z772
            have uz772 := Int32.toInt_lt z772
            try replace tz772 : z772.toInt = ((QF755 p0.toNatClampNeg) 10).toInt - (3 : Int) := by omega
            refine px_put S k_Mpr hT hw 3 0 10 rfl rfl (by decide) m11_1 rfl rfl rfl (Nat.le_of_ble_eq_true rfl) d_Mo_ownCall_254 (w' := wd_Mpr cs (hq p0.toNatClampNeg) (qr p0.toNatClampNeg) (fun _ => QO754 p0.toNatClampNeg) (upd (QF755 p0.toNatClampNeg) 10 z772) (QA756 p0.toNatClampNeg) (fun _ _ => none)) (ps' := [wd_Mo cs mo mr (fun _ => none) mf752 md753 (gMo PG hq), fm 8 (fPg cs PG), fo 13 (fPr cs hq qr QO754 QF755 QA756) p0.toNatClampNeg, wd_Mpr cs (hq p0.toNatClampNeg) (qr p0.toNatClampNeg) (fun _ => QO754 p0.toNatClampNeg) (upd (QF755 p0.toNatClampNeg) 10 z772) (QA756 p0.toNatClampNeg) (fun _ _ => none)]) rfl rfl (fun H locs hw => ?_)
            refine lv_aload_n S.x S.b d_Mo_ownCall_257 rfl (lv_at hl 4 rfl) ?_
            refine lv_aload_n S.x S.b d_Mo_ownCall_258 rfl (lv_at hl 5 rfl) ?_
            refine px_get S k_Mo hT hw 0 0 9 (v := .int (mf752 9)) rfl rfl rfl (by decide) m11_87 d_Mo_ownCall_259 ?_
            refine px_callv (pr := [wd_Mo cs mo mr (fun _ => none) mf752 md753 (gMo PG hq), fm 8 (fPg cs PG), fo 13 (fPr cs hq qr QO754 QF755 QA756) p0.toNatClampNeg]) (px_runV (As := [.int (mf752 9)]) (rest := []) S (c_mq_give l D cs (hq p0.toNatClampNeg) (qr p0.toNatClampNeg) (fun _ _ => none) (fun _ => QO754 p0.toNatClampNeg) (upd (QF755 p0.toNatClampNeg) 10 z772) (QA756 p0.toNatClampNeg) (mf752 9)  (show 0 ≤ z772.toInt from by omega) (show z772.toInt < 62500 from by omega) _) hT (pr := [wd_Mo cs mo mr (fun _ => none) mf752 md753 (gMo PG hq), fm 8 (fPg cs PG), fo 13 (fPr cs hq qr QO754 QF755 QA756) p0.toNatClampNeg]) (pcs := [wd_Mpr cs (hq p0.toNatClampNeg) (qr p0.toNatClampNeg) (fun _ => QO754 p0.toNatClampNeg) (upd (QF755 p0.toNatClampNeg) 10 z772) (QA756 p0.toNatClampNeg) (fun _ _ => none)]) hw px_X.tt (px_recv hT hw 3 0 rfl rfl rfl) m13_161 m14_111 m13_159 m13_160 m1_22 q_Mpr_give ⟨Nat.le_of_ble_eq_true rfl, Nat.le_of_ble_eq_true rfl⟩ hl.1 rfl (Nat.le_of_ble_eq_true rfl) d_Mo_ownCall_262 ⟨Nat.le_of_ble_eq_true rfl, Nat.le_of_ble_eq_true rfl⟩) hw hA (fun p777 H locs hp777 hw => ?_)
            obtain ⟨qf775, qa776, rfl, e779, e780, e781, e782, e783, e784, e785, e786, e787, e788, e789, e790, e791, e792, e793, e794⟩ := hp777
            have e779 : (qf775 10).toInt = z772.toInt + 1 := e779
            have e780 : (qf775 1).toInt = ((QF755 p0.toNatClampNeg) 1).toInt := e780
            have e781 : (qf775 2).toInt = ((QF755 p0.toNatClampNeg) 2).toInt := e781
            have e782 : (qf775 3).toInt = ((QF755 p0.toNatClampNeg) 3).toInt := e782
            have e783 : (qf775 4).toInt = ((QF755 p0.toNatClampNeg) 4).toInt := e783
            have e784 : (qf775 5).toInt = ((QF755 p0.toNatClampNeg) 5).toInt := e784
            have e785 : (qf775 6).toInt = ((QF755 p0.toNatClampNeg) 6).toInt := e785
            have e786 : (qf775 7).toInt = ((QF755 p0.toNatClampNeg) 7).toInt := e786
            have e787 : (qf775 11).toInt = ((QF755 p0.toNatClampNeg) 11).toInt := e787
            have e788 : (qf775 12).toInt = ((QF755 p0.toNatClampNeg) 12).toInt := e788
            have e789 : (qf775 13).toInt = ((QF755 p0.toNatClampNeg) 13).toInt := e789
            have e790 : (qf775 14).toInt = ((QF755 p0.toNatClampNeg) 14).toInt := e790
            have e791 : (qf775 21).toInt = ((QF755 p0.toNatClampNeg) 21).toInt := e791
            have e792 : (qf775 23).toInt = ((QF755 p0.toNatClampNeg) 23).toInt := e792
            have e793 : (qf775 24).toInt = ((QF755 p0.toNatClampNeg) 24).toInt := e793
            have e794 : NuU (QA756 p0.toNatClampNeg) qa776 9 z772.toInt (mf752 9) := e794
            skip
            have hw : pw D A s.heap H locs [wd_Mo cs mo mr (fun _ => none) mf752 md753 (gMo PG hq), fm 8 (fPg cs PG), fo 13 (fPr cs hq qr QO754 QF755 QA756) p0.toNatClampNeg, wd_Mpr cs (hq p0.toNatClampNeg) (qr p0.toNatClampNeg) (fun _ => QO754 p0.toNatClampNeg) qf775 qa776 (fun _ _ => none)] := hw
            refine lv_iload S.x S.b d_Mo_ownCall_265 (lv_at hl 1 rfl) ?_
            have hw := fpr_in (pr := [wd_Mo cs mo mr (fun _ => none) mf752 md753 (gMo PG hq), fm 8 (fPg cs PG)]) hw hi770
            obtain ⟨QO795, hu_QO795⟩ : ∃ y : Nat → Option Nat, y = va_up QO754 p0.toNatClampNeg ((fun _ => QO754 p0.toNatClampNeg) 0) := ⟨_, rfl⟩
            obtain ⟨QF796, hu_QF796⟩ : ∃ y : Nat → Nat → Int32, y = va_up QF755 p0.toNatClampNeg qf775 := ⟨_, rfl⟩
            obtain ⟨QA797, hu_QA797⟩ : ∃ y : Nat → Nat → Nat → Int32, y = va_up QA756 p0.toNatClampNeg qa776 := ⟨_, rfl⟩
            have hw : pw D A s.heap _ _ [wd_Mo cs mo mr (fun _ => none) mf752 md753 (gMo PG hq), fm 8 (fPg cs PG), fm 13 (fPr cs hq qr QO795 QF796 QA797)] := (by rw [hu_QO795, hu_QF796, hu_QA797]; exact hw)
            have hpx : PrX PG RR QO795 QF796 QA797 p0.toNatClampNeg := (by rw [hu_QO795, hu_QF796, hu_QA797]; exact PrX.up hpx (show (0 ≤ (qf775 1).toInt ∧ (qf775 1).toInt ≤ 1) ∧ (0 ≤ (qf775 21).toInt ∧ (qf775 21).toInt ≤ 4) ∧ (0 ≤ (qf775 23).toInt ∧ (qf775 23).toInt ≤ 4) ∧ (0 ≤ (qf775 24).toInt ∧ (qf775 24).toInt ≤ 1000000) ∧ (0 ≤ (qf775 6).toInt ∧ (qf775 6).toInt ≤ 3) ∧ (0 ≤ (qf775 7).toInt ∧ (qf775 7).toInt ≤ 1) from by omega) (show (qf775 1).toInt = (QF755 p0.toNatClampNeg 1).toInt from by first | exact oz_1811ac7fe4 e780 | omega) (show (QF755 p0.toNatClampNeg 6).toInt ≤ (qf775 6).toInt from by first | exact oz_f9b42d1b56 e785 | omega))
            have hpd : PdT (PG j9) (RR p0.toNatClampNeg) (QF796 p0.toNatClampNeg) (QA797 p0.toNatClampNeg) := (by rw [hu_QF796, hu_QA797, va_up_s, va_up_s]; exact PoT.ans hpo (show (qf775 4).toInt = (QF p0.toNatClampNeg 4).toInt ∧ (qf775 5).toInt = (QF p0.toNatClampNeg 5).toInt ∧ (qf775 11).toInt = (QF p0.toNatClampNeg 11).toInt ∧ (qf775 12).toInt = (QF p0.toNatClampNeg 12).toInt ∧ (qf775 13).toInt = (QF p0.toNatClampNeg 13).toInt ∧ (qf775 14).toInt = (QF p0.toNatClampNeg 14).toInt from by omega) (show (qf775 10).toInt = (QF p0.toNatClampNeg 10).toInt - ((oslots p1.toInt).length : Int) + 1 from by omega) (show (qf775 24).toInt = (QF p0.toNatClampNeg 24).toInt ∨ (p1.toInt = 1 ∧ (qf775 24).toInt = (QF p0.toNatClampNeg 24).toInt + 1) from by omega) (fun i9 q9 => ⟨by omega, by rw [← hx5, ← hx4]; exact hkm.2.2.2 i9 q9⟩) (fun k9 a9 b9 c9 d9 => hkm.2.2.1 k9 a9 b9 c9) (show NuU _ _ 9 ((QF p0.toNatClampNeg 10).toInt - ((oslots p1.toInt).length : Int)) _ from (by have q8 := e794; rw [show (z772.toInt) = (QF p0.toNatClampNeg 10).toInt - ((oslots p1.toInt).length : Int) by omega] at q8; exact q8)))
            have hko : KpO QO QF QO795 QF796 p0.toNatClampNeg := (by rw [hu_QO795, hu_QF796]; refine ⟨by rw [va_up_s]; first | done | exact hkm.1, ?_⟩; rw [va_up_s]; exact (show (qf775 1).toInt = (QF p0.toNatClampNeg 1).toInt ∧ (qf775 7).toInt = (QF p0.toNatClampNeg 7).toInt ∧ (qf775 11).toInt = (QF p0.toNatClampNeg 11).toInt from by omega))
            have hw : pw D A s.heap _ _ [wd_Mo cs mo mr (fun _ => none) mf752 md753 (gMo PG hq), fm 13 (fPr cs hq qr QO795 QF796 QA797), fm 8 (fPg cs PG)] := hw.sub [0, 2, 1] rfl rfl
            exact px_iret (v := 1) S hr rfl hlk hAe hw (Nat.le_of_ble_eq_true rfl) (Nat.le_of_ble_eq_true rfl) (⟨mf752, md753, QO795, QF796, QA797, rfl, (show 0 ≤ (1 : Int) from by first | exact oz_19c3a41681 | omega), (show (1 : Int) ≤ 1 from by first | exact oz_f9181dc4bb | omega), (show OwQ (1 : Int) (PrA PG RR QO795 QF796 QA797) (PrX PG RR QO795 QF796 QA797 p0.toNatClampNeg ∧ PdT (PG j9) (RR p0.toNatClampNeg) (QF796 p0.toNatClampNeg) (QA797 p0.toNatClampNeg)) from (Or.inr ⟨by omega, hpx, hpd⟩)), (show KpO QO QF QO795 QF796 p0.toNatClampNeg from hko), (show (mf752 0).toInt = (mf 0).toInt from by first | exact e761 | omega), (show (mf752 2).toInt = (mf 2).toInt from by first | exact e762 | omega), (show (mf752 3).toInt = (mf 3).toInt from by first | exact e763 | omega), (show (mf752 7).toInt = (mf 7).toInt from by first | exact e764 | omega), (show (mf752 8).toInt = (mf 8).toInt from by first | exact e765 | omega), (show (mf752 10).toInt = (mf 10).toInt from by first | exact e767 | omega), (show Md1 md md753 from hmdq)⟩) d_Mo_ownCall_267
        · have nc742 : p1.toInt = (7 : Int) := (i_eq (x := p1) (y := 7)).mp c742
          refine lv_iconst (v := 1) S.x S.b d_Mo_ownCall_205 (by decide) ?_
          refine lv_goto (tgt := 210) S.x S.b d_Mo_ownCall_206 (by decide) ?_
          refine lv_aload_n S.x S.b d_Mo_ownCall_210 rfl (lv_at hl 4 rfl) ?_
          refine px_get S k_Mpr hT hw 3 0 9 (v := .ref ((qr p0.toNatClampNeg) 9)) rfl rfl rfl (by decide) m10_239 d_Mo_ownCall_211 ?_
          refine lv_aload_n S.x S.b d_Mo_ownCall_214 rfl (lv_at hl 4 rfl) ?_
          refine px_get S k_Mpr hT hw 3 0 10 (v := .int ((QF p0.toNatClampNeg) 10)) rfl rfl rfl (by decide) m11_1 d_Mo_ownCall_215 ?_
          refine lv_iconst (v := 3) S.x S.b d_Mo_ownCall_218 (by decide) ?_
          refine lv_isub S.x S.b d_Mo_ownCall_219 ?_
          have lr798 := Int32.le_toInt ((QF p0.toNatClampNeg) 10)
          have ur798 := Int32.toInt_lt ((QF p0.toNatClampNeg) 10)
          refine lv_topi (fun z799 ez799 => ?_)
          have tz799 : z799.toInt = (((QF p0.toNatClampNeg) 10).toInt - (3 : Int) + 2147483648) % 4294967296 - 2147483648 := by rw [ez799]; exact i_sub ((QF p0.toNatClampNeg) 10) 3
          have lz799 := Int32.le_toInt z799
          have uz799 := Int32.toInt_lt z799
          try replace tz799 : z799.toInt = ((QF p0.toNatClampNeg) 10).toInt - (3 : Int) := by omega
          refine px_iald S hT hw 3 2 (n := 62500) (f := ((QA p0.toNatClampNeg) 9)) rfl (ga_Mpr_9 _ _ _ _ _ _ _) (x := z799) (vp_in_iff.mpr (by constructor <;> omega)) d_Mo_ownCall_220 ?_
          refine lv_topi (fun z800 ez800 => ?_)
          have lz800 := Int32.le_toInt z800
          have uz800 := Int32.toInt_lt z800
          have hmv9 : ∀ c : Int, z376.toInt ≤ c → c < z376.toInt + z4.toInt → 0 ≤ c ∧ c < 37000 := (by rw [hx5, hx4]; exact hpo.arr (by omega))
          refine lv_iload S.x S.b d_Mo_ownCall_221 (lv_at hl 2 rfl) ?_
          refine lv_iload S.x S.b d_Mo_ownCall_223 (lv_at hl 3 rfl) ?_
          have hw : pw D A s.heap _ _ [wd_Mo cs mo mr (fun _ => none) (upd mf 9 0) md (gMo PG hq), fm 8 (fPg cs PG), fm 13 (fPr cs hq qr QO QF QA)] := fm_back (pr := [wd_Mo cs mo mr (fun _ => none) (upd mf 9 0) md (gMo PG hq), fm 8 (fPg cs PG)]) (T := fPr cs hq qr QO QF QA) hw hi1
          have hw : pw D A s.heap _ _ [wd_Mo cs mo mr (fun _ => none) (upd mf 9 0) md (gMo PG hq), fm 13 (fPr cs hq qr QO QF QA), fm 8 (fPg cs PG)] := hw.sub [0, 2, 1] rfl rfl
          refine px_callv (pr := []) (px_runV (As := [.int p0, .int 1, .int z800, .int z376, .int z4]) (rest := []) S (c_mo_moveArray l D cs RR mo mr (upd mf 9 0) md hq qr QO QF QA PG p0 1 z800 z376 z4  (show 0 ≤ p0.toInt from by first | exact g0 | omega) (show p0.toInt < 13 from by first | exact g1 | omega) hpr hpg hmv9 _) hT (pr := []) (pcs := [wd_Mo cs mo mr (fun _ => none) (upd mf 9 0) md (gMo PG hq), fm 13 (fPr cs hq qr QO QF QA), fm 8 (fPg cs PG)]) hw px_X.tt (px_recv hT hw 0 0 rfl rfl rfl) m14_110 m14_107 m14_109 ms_16_10 m1_20 q_Mo_moveArray ⟨Nat.le_of_ble_eq_true rfl, Nat.le_of_ble_eq_true rfl⟩ hl.1 rfl (Nat.le_of_ble_eq_true rfl) d_Mo_ownCall_225 ⟨Nat.le_of_ble_eq_true rfl, Nat.le_of_ble_eq_true rfl⟩) hw hA (fun p811 H locs hp811 hw => ?_)
          obtain ⟨mf806, md807, QO808, QF809, QA810, rfl, e813, e814, e815, e816, e817, e818, e819, e820, e821, e822⟩ := hp811
          have e813 : PrX PG RR QO808 QF809 QA810 p0.toNatClampNeg := e813
          have hpx := e813
          have e814 : KpM QO QF QA QO808 QF809 QA810 p0.toNatClampNeg z376.toInt z4.toInt := e814
          have hkm := e814
          have e815 : (mf806 0).toInt = (mf 0).toInt := e815
          have e816 : (mf806 2).toInt = (mf 2).toInt := e816
          have e817 : (mf806 3).toInt = (mf 3).toInt := e817
          have e818 : (mf806 7).toInt = (mf 7).toInt := e818
          have e819 : (mf806 8).toInt = (mf 8).toInt := e819
          have e820 : (mf806 9).toInt = (0 : Int) := e820
          have e821 : (mf806 10).toInt = (mf 10).toInt := e821
          have e822 : Md1 md md807 := e822
          have hmdq := Md1.tr hmdq e822
          have hw : pw D A s.heap H locs [wd_Mo cs mo mr (fun _ => none) mf806 md807 (gMo PG hq), fm 13 (fPr cs hq qr QO808 QF809 QA810), fm 8 (fPg cs PG)] := hw
          refine lv_iconst (v := 3) S.x S.b d_Mo_ownCall_228 (by decide) ?_
          refine lv_istore (lv' := [(7, .int 3), (6, .int 1), (5, .int z376), (4, .int z4), (3, .ref (hq p0.toNatClampNeg)), (0, .ref mo), (1, .int p0), (2, .int p1)]) S.x S.b d_Mo_ownCall_229 hl (by decide) rfl (fun ls hl => ?_)
          refine lv_goto (tgt := 241) S.x S.b d_Mo_ownCall_231 (by decide) ?_
          refine lv_iload S.x S.b d_Mo_ownCall_241 (lv_at hl 1 rfl) ?_
          refine lv_if_eq (tgt := 265) S.x S.b d_Mo_ownCall_243 (by decide) (fun c823 => ?_) (fun c823 => ?_)
          · exact absurd c823 (by decide)
          ·
            refine lv_aload_n S.x S.b d_Mo_ownCall_246 rfl (lv_at hl 4 rfl) ?_
            have hkf := hkm.2.1; unfold KpF at hkf
            refine lv_aload_n S.x S.b d_Mo_ownCall_247 rfl (lv_at hl 4 rfl) ?_
            have hw : pw D A s.heap _ _ [wd_Mo cs mo mr (fun _ => none) mf806 md807 (gMo PG hq), fm 8 (fPg cs PG), fm 13 (fPr cs hq qr QO808 QF809 QA810)] := hw.sub [0, 2, 1] rfl rfl
            have hc824 := cl_nat (x := p0) (by first | exact g0 | omega)
            have hi824 : p0.toNatClampNeg < 13 := by first | exact hi1 | omega
            have hw : pw D A s.heap _ _ [wd_Mo cs mo mr (fun _ => none) mf806 md807 (gMo PG hq), fm 8 (fPg cs PG), fo 13 (fPr cs hq qr QO808 QF809 QA810) p0.toNatClampNeg, wd_Mpr cs (hq p0.toNatClampNeg) (qr p0.toNatClampNeg) (fun _ => QO808 p0.toNatClampNeg) (QF809 p0.toNatClampNeg) (QA810 p0.toNatClampNeg) (fun _ _ => none)] := fm_out (pr := [wd_Mo cs mo mr (fun _ => none) mf806 md807 (gMo PG hq), fm 8 (fPg cs PG)]) (T := fPr cs hq qr QO808 QF809 QA810) hw hi824
            have hpb824 := hpx.2.2
            unfold PsB at hpb824
            refine px_get S k_Mpr hT hw 3 0 10 (v := .int ((QF809 p0.toNatClampNeg) 10)) rfl rfl rfl (by decide) m11_1 d_Mo_ownCall_248 ?_
            refine lv_iload S.x S.b d_Mo_ownCall_251 (lv_at hl 0 rfl) ?_
            refine lv_isub S.x S.b d_Mo_ownCall_253 ?_
            have lr825 := Int32.le_toInt ((QF809 p0.toNatClampNeg) 10)
            have ur825 := Int32.toInt_lt ((QF809 p0.toNatClampNeg) 10)
            refine lv_topi (fun z826 ez826 => ?_)
            have tz826 : z826.toInt = (((QF809 p0.toNatClampNeg) 10).toInt - (3 : Int) + 2147483648) % 4294967296 - 2147483648 := by rw [ez826]; exact i_sub ((QF809 p0.toNatClampNeg) 10) 3
            have lz826 := Int32.le_toInt z826
            have uz826 := Int32.toInt_lt z826
            try replace tz826 : z826.toInt = ((QF809 p0.toNatClampNeg) 10).toInt - (3 : Int) := by omega
            refine px_put S k_Mpr hT hw 3 0 10 rfl rfl (by decide) m11_1 rfl rfl rfl (Nat.le_of_ble_eq_true rfl) d_Mo_ownCall_254 (w' := wd_Mpr cs (hq p0.toNatClampNeg) (qr p0.toNatClampNeg) (fun _ => QO808 p0.toNatClampNeg) (upd (QF809 p0.toNatClampNeg) 10 z826) (QA810 p0.toNatClampNeg) (fun _ _ => none)) (ps' := [wd_Mo cs mo mr (fun _ => none) mf806 md807 (gMo PG hq), fm 8 (fPg cs PG), fo 13 (fPr cs hq qr QO808 QF809 QA810) p0.toNatClampNeg, wd_Mpr cs (hq p0.toNatClampNeg) (qr p0.toNatClampNeg) (fun _ => QO808 p0.toNatClampNeg) (upd (QF809 p0.toNatClampNeg) 10 z826) (QA810 p0.toNatClampNeg) (fun _ _ => none)]) rfl rfl (fun H locs hw => ?_)
            refine lv_aload_n S.x S.b d_Mo_ownCall_257 rfl (lv_at hl 4 rfl) ?_
            refine lv_aload_n S.x S.b d_Mo_ownCall_258 rfl (lv_at hl 5 rfl) ?_
            refine px_get S k_Mo hT hw 0 0 9 (v := .int (mf806 9)) rfl rfl rfl (by decide) m11_87 d_Mo_ownCall_259 ?_
            refine px_callv (pr := [wd_Mo cs mo mr (fun _ => none) mf806 md807 (gMo PG hq), fm 8 (fPg cs PG), fo 13 (fPr cs hq qr QO808 QF809 QA810) p0.toNatClampNeg]) (px_runV (As := [.int (mf806 9)]) (rest := []) S (c_mq_give l D cs (hq p0.toNatClampNeg) (qr p0.toNatClampNeg) (fun _ _ => none) (fun _ => QO808 p0.toNatClampNeg) (upd (QF809 p0.toNatClampNeg) 10 z826) (QA810 p0.toNatClampNeg) (mf806 9)  (show 0 ≤ z826.toInt from by omega) (show z826.toInt < 62500 from by omega) _) hT (pr := [wd_Mo cs mo mr (fun _ => none) mf806 md807 (gMo PG hq), fm 8 (fPg cs PG), fo 13 (fPr cs hq qr QO808 QF809 QA810) p0.toNatClampNeg]) (pcs := [wd_Mpr cs (hq p0.toNatClampNeg) (qr p0.toNatClampNeg) (fun _ => QO808 p0.toNatClampNeg) (upd (QF809 p0.toNatClampNeg) 10 z826) (QA810 p0.toNatClampNeg) (fun _ _ => none)]) hw px_X.tt (px_recv hT hw 3 0 rfl rfl rfl) m13_161 m14_111 m13_159 m13_160 m1_22 q_Mpr_give ⟨Nat.le_of_ble_eq_true rfl, Nat.le_of_ble_eq_true rfl⟩ hl.1 rfl (Nat.le_of_ble_eq_true rfl) d_Mo_ownCall_262 ⟨Nat.le_of_ble_eq_true rfl, Nat.le_of_ble_eq_true rfl⟩) hw hA (fun p831 H locs hp831 hw => ?_)
            obtain ⟨qf829, qa830, rfl, e833, e834, e835, e836, e837, e838, e839, e840, e841, e842, e843, e844, e845, e846, e847, e848⟩ := hp831
            have e833 : (qf829 10).toInt = z826.toInt + 1 := e833
            have e834 : (qf829 1).toInt = ((QF809 p0.toNatClampNeg) 1).toInt := e834
            have e835 : (qf829 2).toInt = ((QF809 p0.toNatClampNeg) 2).toInt := e835
            have e836 : (qf829 3).toInt = ((QF809 p0.toNatClampNeg) 3).toInt := e836
            have e837 : (qf829 4).toInt = ((QF809 p0.toNatClampNeg) 4).toInt := e837
            have e838 : (qf829 5).toInt = ((QF809 p0.toNatClampNeg) 5).toInt := e838
            have e839 : (qf829 6).toInt = ((QF809 p0.toNatClampNeg) 6).toInt := e839
            have e840 : (qf829 7).toInt = ((QF809 p0.toNatClampNeg) 7).toInt := e840
            have e841 : (qf829 11).toInt = ((QF809 p0.toNatClampNeg) 11).toInt := e841
            have e842 : (qf829 12).toInt = ((QF809 p0.toNatClampNeg) 12).toInt := e842
            have e843 : (qf829 13).toInt = ((QF809 p0.toNatClampNeg) 13).toInt := e843
            have e844 : (qf829 14).toInt = ((QF809 p0.toNatClampNeg) 14).toInt := e844
            have e845 : (qf829 21).toInt = ((QF809 p0.toNatClampNeg) 21).toInt := e845
            have e846 : (qf829 23).toInt = ((QF809 p0.toNatClampNeg) 23).toInt := e846
            have e847 : (qf829 24).toInt = ((QF809 p0.toNatClampNeg) 24).toInt := e847
            have e848 : NuU (QA810 p0.toNatClampNeg) qa830 9 z826.toInt (mf806 9) := e848
            skip
            have hw : pw D A s.heap H locs [wd_Mo cs mo mr (fun _ => none) mf806 md807 (gMo PG hq), fm 8 (fPg cs PG), fo 13 (fPr cs hq qr QO808 QF809 QA810) p0.toNatClampNeg, wd_Mpr cs (hq p0.toNatClampNeg) (qr p0.toNatClampNeg) (fun _ => QO808 p0.toNatClampNeg) qf829 qa830 (fun _ _ => none)] := hw
            refine lv_iload S.x S.b d_Mo_ownCall_265 (lv_at hl 1 rfl) ?_
            have hw := fpr_in (pr := [wd_Mo cs mo mr (fun _ => none) mf806 md807 (gMo PG hq), fm 8 (fPg cs PG)]) hw hi824
            obtain ⟨QO849, hu_QO849⟩ : ∃ y : Nat → Option Nat, y = va_up QO808 p0.toNatClampNeg ((fun _ => QO808 p0.toNatClampNeg) 0) := ⟨_, rfl⟩
            obtain ⟨QF850, hu_QF850⟩ : ∃ y : Nat → Nat → Int32, y = va_up QF809 p0.toNatClampNeg qf829 := ⟨_, rfl⟩
            obtain ⟨QA851, hu_QA851⟩ : ∃ y : Nat → Nat → Nat → Int32, y = va_up QA810 p0.toNatClampNeg qa830 := ⟨_, rfl⟩
            have hw : pw D A s.heap _ _ [wd_Mo cs mo mr (fun _ => none) mf806 md807 (gMo PG hq), fm 8 (fPg cs PG), fm 13 (fPr cs hq qr QO849 QF850 QA851)] := (by rw [hu_QO849, hu_QF850, hu_QA851]; exact hw)
            have hpx : PrX PG RR QO849 QF850 QA851 p0.toNatClampNeg := (by rw [hu_QO849, hu_QF850, hu_QA851]; exact PrX.up hpx (show (0 ≤ (qf829 1).toInt ∧ (qf829 1).toInt ≤ 1) ∧ (0 ≤ (qf829 21).toInt ∧ (qf829 21).toInt ≤ 4) ∧ (0 ≤ (qf829 23).toInt ∧ (qf829 23).toInt ≤ 4) ∧ (0 ≤ (qf829 24).toInt ∧ (qf829 24).toInt ≤ 1000000) ∧ (0 ≤ (qf829 6).toInt ∧ (qf829 6).toInt ≤ 3) ∧ (0 ≤ (qf829 7).toInt ∧ (qf829 7).toInt ≤ 1) from by omega) (show (qf829 1).toInt = (QF809 p0.toNatClampNeg 1).toInt from by first | exact oz_1811ac7fe4 e834 | omega) (show (QF809 p0.toNatClampNeg 6).toInt ≤ (qf829 6).toInt from by first | exact oz_f9b42d1b56 e839 | omega))
            have hpd : PdT (PG j9) (RR p0.toNatClampNeg) (QF850 p0.toNatClampNeg) (QA851 p0.toNatClampNeg) := (by rw [hu_QF850, hu_QA851, va_up_s, va_up_s]; exact PoT.ans hpo (show (qf829 4).toInt = (QF p0.toNatClampNeg 4).toInt ∧ (qf829 5).toInt = (QF p0.toNatClampNeg 5).toInt ∧ (qf829 11).toInt = (QF p0.toNatClampNeg 11).toInt ∧ (qf829 12).toInt = (QF p0.toNatClampNeg 12).toInt ∧ (qf829 13).toInt = (QF p0.toNatClampNeg 13).toInt ∧ (qf829 14).toInt = (QF p0.toNatClampNeg 14).toInt from by omega) (show (qf829 10).toInt = (QF p0.toNatClampNeg 10).toInt - ((oslots p1.toInt).length : Int) + 1 from by omega) (show (qf829 24).toInt = (QF p0.toNatClampNeg 24).toInt ∨ (p1.toInt = 1 ∧ (qf829 24).toInt = (QF p0.toNatClampNeg 24).toInt + 1) from by omega) (fun i9 q9 => ⟨by omega, by rw [← hx5, ← hx4]; exact hkm.2.2.2 i9 q9⟩) (fun k9 a9 b9 c9 d9 => hkm.2.2.1 k9 a9 b9 c9) (show NuU _ _ 9 ((QF p0.toNatClampNeg 10).toInt - ((oslots p1.toInt).length : Int)) _ from (by have q8 := e848; rw [show (z826.toInt) = (QF p0.toNatClampNeg 10).toInt - ((oslots p1.toInt).length : Int) by omega] at q8; exact q8)))
            have hko : KpO QO QF QO849 QF850 p0.toNatClampNeg := (by rw [hu_QO849, hu_QF850]; refine ⟨by rw [va_up_s]; first | done | exact hkm.1, ?_⟩; rw [va_up_s]; exact (show (qf829 1).toInt = (QF p0.toNatClampNeg 1).toInt ∧ (qf829 7).toInt = (QF p0.toNatClampNeg 7).toInt ∧ (qf829 11).toInt = (QF p0.toNatClampNeg 11).toInt from by omega))
            have hw : pw D A s.heap _ _ [wd_Mo cs mo mr (fun _ => none) mf806 md807 (gMo PG hq), fm 13 (fPr cs hq qr QO849 QF850 QA851), fm 8 (fPg cs PG)] := hw.sub [0, 2, 1] rfl rfl
            exact px_iret (v := 1) S hr rfl hlk hAe hw (Nat.le_of_ble_eq_true rfl) (Nat.le_of_ble_eq_true rfl) (⟨mf806, md807, QO849, QF850, QA851, rfl, (show 0 ≤ (1 : Int) from by first | exact oz_19c3a41681 | omega), (show (1 : Int) ≤ 1 from by first | exact oz_f9181dc4bb | omega), (show OwQ (1 : Int) (PrA PG RR QO849 QF850 QA851) (PrX PG RR QO849 QF850 QA851 p0.toNatClampNeg ∧ PdT (PG j9) (RR p0.toNatClampNeg) (QF850 p0.toNatClampNeg) (QA851 p0.toNatClampNeg)) from (Or.inr ⟨by omega, hpx, hpd⟩)), (show KpO QO QF QO849 QF850 p0.toNatClampNeg from hko), (show (mf806 0).toInt = (mf 0).toInt from by first | exact e815 | omega), (show (mf806 2).toInt = (mf 2).toInt from by first | exact e816 | omega), (show (mf806 3).toInt = (mf 3).toInt from by first | exact e817 | omega), (show (mf806 7).toInt = (mf 7).toInt from by first | exact e818 | omega), (show (mf806 8).toInt = (mf 8).toInt from by first | exact e819 | omega), (show (mf806 10).toInt = (mf 10).toInt from by first | exact e821 | omega), (show Md1 md md807 from hmdq)⟩) d_Mo_ownCall_267
