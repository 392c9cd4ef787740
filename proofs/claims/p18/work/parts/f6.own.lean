theorem oz_2e4f4c116e {a0 a1 a2 : Int} (h0 : a0 = a1 - (1 : Int)) (h1 : a1 = a2) (h2 : a2 ≤ (1 : Int)) : a0 < 62500 := by omega
theorem oz_e3309c85a3 {a0 a1 a2 a3 a4 a5 a6 a7 a8 a9 a10 a11 a12 a13 a14 a15 a16 a17 : Int} (h0 : a12 = a1) (h1 : a0 = a12) (h2 : a13 = a3) (h3 : a2 = a13) (h4 : a14 = a5) (h5 : a4 = a14) (h6 : a15 = a7) (h7 : a6 = a15) (h8 : a16 = a9) (h9 : a8 = a16) (h10 : a17 = a11) (h11 : a10 = a17) : a0 = a1 ∧ a2 = a3 ∧ a4 = a5 ∧ a6 = a7 ∧ a8 = a9 ∧ a10 = a11 := by omega
theorem oz_c24f474a2b {a0 a1 a2 a3 a4 a5 a6 a7 a8 : Int} (h0 : a6 = a1) (h1 : a0 = a6) (h2 : a7 = a3) (h3 : a2 = a7) (h4 : a8 = a5) (h5 : a4 = a8) : a0 = a1 ∧ a2 = a3 ∧ a4 = a5 := by omega
theorem oz_2c9f9036ba {a0 a1 : Int} (h0 : a0 = a1 - (2 : Int)) (h1 : a1 ≤ (1 : Int)) : a0 < 62500 := by omega
theorem oz_82ab602a70 {a0 a1 a2 a3 a4 a5 a6 a7 a8 a9 a10 a11 : Int} (h0 : a0 = a1) (h1 : a2 = a3) (h2 : a4 = a5) (h3 : a6 = a7) (h4 : a8 = a9) (h5 : a10 = a11) : a0 = a1 ∧ a2 = a3 ∧ a4 = a5 ∧ a6 = a7 ∧ a8 = a9 ∧ a10 = a11 := by omega
theorem oz_ca5abb16c6 {a0 a1 a2 a3 a4 a5 : Int} (h0 : a0 = a1) (h1 : a2 = a3) (h2 : a4 = a5) : a0 = a1 ∧ a2 = a3 ∧ a4 = a5 := by omega
theorem oz_9812ba30bf {a0 a1 : Int} (h0 : a0 + a1 ≤ 100) (h1 : 0 ≤ a1) : a0 ≤ 1000000 := by omega
theorem oz_31acf4d49a {a0 a1 : Int} (h0 : a0 = a1 - (2 : Int)) (h1 : ¬ a1 ≤ (1 : Int)) (h2 : a1 ≤ 514) : 0 ≤ a0 ∧ a0 < ((62500 : Nat) : Int) := by omega
theorem oz_89fa327c54 {a0 a1 a2 : Int} (h0 : a0 = a1 - (1 : Int)) (h1 : a1 = a2) (h2 : ¬ a2 ≤ (1 : Int)) : 0 ≤ a0 := by omega
theorem oz_379d4e28b3 {a0 a1 a2 : Int} (h0 : a0 = a1 - (1 : Int)) (h1 : a1 = a2) (h2 : a2 ≤ 514) : a0 < 62500 := by omega
theorem oz_032273fb6e {a0 a1 : Int} (h0 : a0 = a1 - (2 : Int)) (h1 : ¬ a1 ≤ (1 : Int)) : 0 ≤ a0 := by omega
theorem oz_7c2ced9dd1 {a0 a1 : Int} (h0 : a0 = a1 - (2 : Int)) (h1 : a1 ≤ 514) : a0 < 62500 := by omega
theorem m10_239 : Cond.fieldLink "HomeSystemModel" 133 "HomeSystemModel$Process" "numbers" "[I" ∈ AL := AL_10 (List.mem_of_getElem? (i := 239) rfl) rfl
theorem m11_1 : Cond.fieldLink "HomeSystemModel" 136 "HomeSystemModel$Process" "found" "I" ∈ AL := AL_11 (List.mem_of_getElem? (i := 1) rfl) rfl
theorem m14_111 : Cond.methodLink "HomeSystemModel" 163 ⟨"HomeSystemModel$Process", "give", "(I)V"⟩ ∈ AL := AL_14 (List.mem_of_getElem? (i := 111) rfl) rfl
theorem m14_36 : Cond.methodLink "HomeSystemModel" 139 ⟨"HomeSystemModel$Process", "write", "(I)V"⟩ ∈ AL := AL_14 (List.mem_of_getElem? (i := 36) rfl) rfl
theorem m14_39 : Cond.code ⟨"HomeSystemModel$Process", "write", "(I)V"⟩ prog_15_method_7_code 2 (Option.none : Option Jvm.ClassFile.FieldType) ∈ AL := AL_14 (List.mem_of_getElem? (i := 39) rfl) rfl
theorem m14_38 : Cond.selects "HomeSystemModel$Process" ⟨"HomeSystemModel$Process", "write", "(I)V"⟩ ⟨"HomeSystemModel$Process", "write", "(I)V"⟩ ∈ AL := AL_14 (List.mem_of_getElem? (i := 38) rfl) rfl
theorem m14_37 : Cond.instanceMethod ⟨"HomeSystemModel$Process", "write", "(I)V"⟩ ∈ AL := AL_14 (List.mem_of_getElem? (i := 37) rfl) rfl
theorem m14_40 : Cond.methodLink "HomeSystemModel" 142 ⟨"HomeSystemModel", "sends", "(III)Z"⟩ ∈ AL := AL_14 (List.mem_of_getElem? (i := 40) rfl) rfl
theorem m14_43 : Cond.code ⟨"HomeSystemModel", "sends", "(III)Z"⟩ prog_14_method_17_code 6 (Option.some FieldType.boolean) ∈ AL := AL_14 (List.mem_of_getElem? (i := 43) rfl) rfl
theorem ms_15_13 : Cond.selects "HomeSystemModel" ⟨"HomeSystemModel", "sends", "(III)Z"⟩ ⟨"HomeSystemModel", "sends", "(III)Z"⟩ ∈ AL := AL_p (q := (⟨"HomeSystemModel", "sends", "(III)Z"⟩, 11)) (by unfold lw_privs; exact List.mem_append_right _ (List.mem_append_right _ (List.mem_append_right _ (List.mem_append_right _ (List.mem_append_right _ (List.mem_append_right _ (List.mem_append_right _ (List.mem_append_right _ (List.mem_append_right _ (List.mem_append_right _ (List.mem_append_right _ (List.mem_append_right _ (List.mem_append_right _ (List.mem_append_right _ (List.mem_append_left _ (List.mem_of_getElem? (i := 13) rfl))))))))))))))))
theorem m14_42 : Cond.instanceMethod ⟨"HomeSystemModel", "sends", "(III)Z"⟩ ∈ AL := AL_14 (List.mem_of_getElem? (i := 42) rfl) rfl
theorem m14_63 : Cond.methodLink "HomeSystemModel" 146 ⟨"HomeSystemModel", "receives", "(II)Z"⟩ ∈ AL := AL_14 (List.mem_of_getElem? (i := 63) rfl) rfl
theorem m14_66 : Cond.code ⟨"HomeSystemModel", "receives", "(II)Z"⟩ prog_14_method_18_code 4 (Option.some FieldType.boolean) ∈ AL := AL_14 (List.mem_of_getElem? (i := 66) rfl) rfl
theorem ms_16_1 : Cond.selects "HomeSystemModel" ⟨"HomeSystemModel", "receives", "(II)Z"⟩ ⟨"HomeSystemModel", "receives", "(II)Z"⟩ ∈ AL := AL_p (q := (⟨"HomeSystemModel", "receives", "(II)Z"⟩, 11)) (by unfold lw_privs; exact List.mem_append_right _ (List.mem_append_right _ (List.mem_append_right _ (List.mem_append_right _ (List.mem_append_right _ (List.mem_append_right _ (List.mem_append_right _ (List.mem_append_right _ (List.mem_append_right _ (List.mem_append_right _ (List.mem_append_right _ (List.mem_append_right _ (List.mem_append_right _ (List.mem_append_right _ (List.mem_append_right _ (List.mem_append_left _ (List.mem_of_getElem? (i := 1) rfl)))))))))))))))))
theorem m14_65 : Cond.instanceMethod ⟨"HomeSystemModel", "receives", "(II)Z"⟩ ∈ AL := AL_14 (List.mem_of_getElem? (i := 65) rfl) rfl
theorem m14_75 : Cond.methodLink "HomeSystemModel" 150 ⟨"HomeSystemModel", "asksMore", "(II)Z"⟩ ∈ AL := AL_14 (List.mem_of_getElem? (i := 75) rfl) rfl
theorem m14_78 : Cond.code ⟨"HomeSystemModel", "asksMore", "(II)Z"⟩ prog_14_method_19_code 5 (Option.some FieldType.boolean) ∈ AL := AL_14 (List.mem_of_getElem? (i := 78) rfl) rfl
theorem ms_16_4 : Cond.selects "HomeSystemModel" ⟨"HomeSystemModel", "asksMore", "(II)Z"⟩ ⟨"HomeSystemModel", "asksMore", "(II)Z"⟩ ∈ AL := AL_p (q := (⟨"HomeSystemModel", "asksMore", "(II)Z"⟩, 11)) (by unfold lw_privs; exact List.mem_append_right _ (List.mem_append_right _ (List.mem_append_right _ (List.mem_append_right _ (List.mem_append_right _ (List.mem_append_right _ (List.mem_append_right _ (List.mem_append_right _ (List.mem_append_right _ (List.mem_append_right _ (List.mem_append_right _ (List.mem_append_right _ (List.mem_append_right _ (List.mem_append_right _ (List.mem_append_right _ (List.mem_append_left _ (List.mem_of_getElem? (i := 4) rfl)))))))))))))))))
theorem m14_77 : Cond.instanceMethod ⟨"HomeSystemModel", "asksMore", "(II)Z"⟩ ∈ AL := AL_14 (List.mem_of_getElem? (i := 77) rfl) rfl
theorem m14_79 : Cond.methodLink "HomeSystemModel" 153 ⟨"HomeSystemModel", "spawns", "(III)V"⟩ ∈ AL := AL_14 (List.mem_of_getElem? (i := 79) rfl) rfl
theorem m14_82 : Cond.code ⟨"HomeSystemModel", "spawns", "(III)V"⟩ prog_14_method_20_code 7 (Option.none : Option Jvm.ClassFile.FieldType) ∈ AL := AL_14 (List.mem_of_getElem? (i := 82) rfl) rfl
theorem ms_16_5 : Cond.selects "HomeSystemModel" ⟨"HomeSystemModel", "spawns", "(III)V"⟩ ⟨"HomeSystemModel", "spawns", "(III)V"⟩ ∈ AL := AL_p (q := (⟨"HomeSystemModel", "spawns", "(III)V"⟩, 11)) (by unfold lw_privs; exact List.mem_append_right _ (List.mem_append_right _ (List.mem_append_right _ (List.mem_append_right _ (List.mem_append_right _ (List.mem_append_right _ (List.mem_append_right _ (List.mem_append_right _ (List.mem_append_right _ (List.mem_append_right _ (List.mem_append_right _ (List.mem_append_right _ (List.mem_append_right _ (List.mem_append_right _ (List.mem_append_right _ (List.mem_append_left _ (List.mem_of_getElem? (i := 5) rfl)))))))))))))))))
theorem m14_81 : Cond.instanceMethod ⟨"HomeSystemModel", "spawns", "(III)V"⟩ ∈ AL := AL_14 (List.mem_of_getElem? (i := 81) rfl) rfl
theorem m14_83 : Cond.methodLink "HomeSystemModel" 156 ⟨"HomeSystemModel", "waits", "(II)Z"⟩ ∈ AL := AL_14 (List.mem_of_getElem? (i := 83) rfl) rfl
theorem m14_86 : Cond.code ⟨"HomeSystemModel", "waits", "(II)Z"⟩ prog_14_method_21_code 5 (Option.some FieldType.boolean) ∈ AL := AL_14 (List.mem_of_getElem? (i := 86) rfl) rfl
theorem ms_16_6 : Cond.selects "HomeSystemModel" ⟨"HomeSystemModel", "waits", "(II)Z"⟩ ⟨"HomeSystemModel", "waits", "(II)Z"⟩ ∈ AL := AL_p (q := (⟨"HomeSystemModel", "waits", "(II)Z"⟩, 11)) (by unfold lw_privs; exact List.mem_append_right _ (List.mem_append_right _ (List.mem_append_right _ (List.mem_append_right _ (List.mem_append_right _ (List.mem_append_right _ (List.mem_append_right _ (List.mem_append_right _ (List.mem_append_right _ (List.mem_append_right _ (List.mem_append_right _ (List.mem_append_right _ (List.mem_append_right _ (List.mem_append_right _ (List.mem_append_right _ (List.mem_append_left _ (List.mem_of_getElem? (i := 6) rfl)))))))))))))))))
theorem m14_85 : Cond.instanceMethod ⟨"HomeSystemModel", "waits", "(II)Z"⟩ ∈ AL := AL_14 (List.mem_of_getElem? (i := 85) rfl) rfl
theorem m14_107 : Cond.methodLink "HomeSystemModel" 159 ⟨"HomeSystemModel", "moveArray", "(IZIII)V"⟩ ∈ AL := AL_14 (List.mem_of_getElem? (i := 107) rfl) rfl
theorem m14_110 : Cond.code ⟨"HomeSystemModel", "moveArray", "(IZIII)V"⟩ prog_14_method_24_code 8 (Option.none : Option Jvm.ClassFile.FieldType) ∈ AL := AL_14 (List.mem_of_getElem? (i := 110) rfl) rfl
theorem ms_16_10 : Cond.selects "HomeSystemModel" ⟨"HomeSystemModel", "moveArray", "(IZIII)V"⟩ ⟨"HomeSystemModel", "moveArray", "(IZIII)V"⟩ ∈ AL := AL_p (q := (⟨"HomeSystemModel", "moveArray", "(IZIII)V"⟩, 11)) (by unfold lw_privs; exact List.mem_append_right _ (List.mem_append_right _ (List.mem_append_right _ (List.mem_append_right _ (List.mem_append_right _ (List.mem_append_right _ (List.mem_append_right _ (List.mem_append_right _ (List.mem_append_right _ (List.mem_append_right _ (List.mem_append_right _ (List.mem_append_right _ (List.mem_append_right _ (List.mem_append_right _ (List.mem_append_right _ (List.mem_append_left _ (List.mem_of_getElem? (i := 10) rfl)))))))))))))))))
theorem m14_109 : Cond.instanceMethod ⟨"HomeSystemModel", "moveArray", "(IZIII)V"⟩ ∈ AL := AL_14 (List.mem_of_getElem? (i := 109) rfl) rfl
abbrev b_Mo_ownCall : ByteArray := prog_14_method_23_code
def y_Mo_ownCall : MethodName := ⟨"HomeSystemModel", "ownCall", "(II)Z"⟩
theorem d_Mo_ownCall_0 : decode b_Mo_ownCall 0 = .ok (.aload_n 0, 1) := by decide +kernel
theorem d_Mo_ownCall_1 : decode b_Mo_ownCall 1 = .ok (.getfield 21, 3) := by decide +kernel
theorem d_Mo_ownCall_4 : decode b_Mo_ownCall 4 = .ok (.iload_n 1, 1) := by decide +kernel
theorem d_Mo_ownCall_5 : decode b_Mo_ownCall 5 = .ok (.aaload, 1) := by decide +kernel
theorem d_Mo_ownCall_6 : decode b_Mo_ownCall 6 = .ok (.astore_n 3, 1) := by decide +kernel
theorem d_Mo_ownCall_7 : decode b_Mo_ownCall 7 = .ok (.aload_n 3, 1) := by decide +kernel
theorem d_Mo_ownCall_8 : decode b_Mo_ownCall 8 = .ok (.getfield 133, 3) := by decide +kernel
theorem d_Mo_ownCall_11 : decode b_Mo_ownCall 11 = .ok (.aload_n 3, 1) := by decide +kernel
theorem d_Mo_ownCall_12 : decode b_Mo_ownCall 12 = .ok (.getfield 136, 3) := by decide +kernel
theorem d_Mo_ownCall_15 : decode b_Mo_ownCall 15 = .ok (.iconst 1, 1) := by decide +kernel
theorem d_Mo_ownCall_16 : decode b_Mo_ownCall 16 = .ok (.isub, 1) := by decide +kernel
theorem d_Mo_ownCall_17 : decode b_Mo_ownCall 17 = .ok (.iaload, 1) := by decide +kernel
theorem d_Mo_ownCall_18 : decode b_Mo_ownCall 18 = .ok (.istore 4, 2) := by decide +kernel
theorem d_Mo_ownCall_20 : decode b_Mo_ownCall 20 = .ok (.aload_n 3, 1) := by decide +kernel
theorem d_Mo_ownCall_21 : decode b_Mo_ownCall 21 = .ok (.getfield 136, 3) := by decide +kernel
theorem d_Mo_ownCall_24 : decode b_Mo_ownCall 24 = .ok (.iconst 1, 1) := by decide +kernel
theorem d_Mo_ownCall_25 : decode b_Mo_ownCall 25 = .ok (.if_icmp .le 17, 3) := by decide +kernel
theorem d_Mo_ownCall_28 : decode b_Mo_ownCall 28 = .ok (.aload_n 3, 1) := by decide +kernel
theorem d_Mo_ownCall_29 : decode b_Mo_ownCall 29 = .ok (.getfield 133, 3) := by decide +kernel
theorem d_Mo_ownCall_32 : decode b_Mo_ownCall 32 = .ok (.aload_n 3, 1) := by decide +kernel
theorem d_Mo_ownCall_33 : decode b_Mo_ownCall 33 = .ok (.getfield 136, 3) := by decide +kernel
theorem d_Mo_ownCall_36 : decode b_Mo_ownCall 36 = .ok (.iconst 2, 1) := by decide +kernel
theorem d_Mo_ownCall_37 : decode b_Mo_ownCall 37 = .ok (.isub, 1) := by decide +kernel
theorem d_Mo_ownCall_38 : decode b_Mo_ownCall 38 = .ok (.iaload, 1) := by decide +kernel
theorem d_Mo_ownCall_39 : decode b_Mo_ownCall 39 = .ok (.goto 4, 3) := by decide +kernel
theorem d_Mo_ownCall_42 : decode b_Mo_ownCall 42 = .ok (.iconst 0, 1) := by decide +kernel
theorem d_Mo_ownCall_43 : decode b_Mo_ownCall 43 = .ok (.istore 5, 2) := by decide +kernel
theorem d_Mo_ownCall_45 : decode b_Mo_ownCall 45 = .ok (.aload_n 0, 1) := by decide +kernel
theorem d_Mo_ownCall_46 : decode b_Mo_ownCall 46 = .ok (.iconst 0, 1) := by decide +kernel
theorem d_Mo_ownCall_47 : decode b_Mo_ownCall 47 = .ok (.putfield 111, 3) := by decide +kernel
theorem d_Mo_ownCall_50 : decode b_Mo_ownCall 50 = .ok (.iconst 1, 1) := by decide +kernel
theorem d_Mo_ownCall_51 : decode b_Mo_ownCall 51 = .ok (.istore 6, 2) := by decide +kernel
theorem d_Mo_ownCall_53 : decode b_Mo_ownCall 53 = .ok (.iconst 1, 1) := by decide +kernel
theorem d_Mo_ownCall_54 : decode b_Mo_ownCall 54 = .ok (.istore 7, 2) := by decide +kernel
theorem d_Mo_ownCall_56 : decode b_Mo_ownCall 56 = .ok (.iload_n 2, 1) := by decide +kernel
theorem d_Mo_ownCall_57 : decode b_Mo_ownCall 57 = .ok (.tableswitch 177 0 8 #[51, 63, 72, 89, 101, 113, 128, 140, 140], 51) := by decide +kernel
theorem d_Mo_ownCall_108 : decode b_Mo_ownCall 108 = .ok (.aload_n 0, 1) := by decide +kernel
theorem d_Mo_ownCall_109 : decode b_Mo_ownCall 109 = .ok (.iload 4, 2) := by decide +kernel
theorem d_Mo_ownCall_111 : decode b_Mo_ownCall 111 = .ok (.putfield 111, 3) := by decide +kernel
theorem d_Mo_ownCall_114 : decode b_Mo_ownCall 114 = .ok (.iconst 2, 1) := by decide +kernel
theorem d_Mo_ownCall_115 : decode b_Mo_ownCall 115 = .ok (.istore 7, 2) := by decide +kernel
theorem d_Mo_ownCall_117 : decode b_Mo_ownCall 117 = .ok (.goto 124, 3) := by decide +kernel
theorem d_Mo_ownCall_120 : decode b_Mo_ownCall 120 = .ok (.aload_n 3, 1) := by decide +kernel
theorem d_Mo_ownCall_121 : decode b_Mo_ownCall 121 = .ok (.iload 4, 2) := by decide +kernel
theorem d_Mo_ownCall_123 : decode b_Mo_ownCall 123 = .ok (.invokevirtual 139, 3) := by decide +kernel
theorem d_Mo_ownCall_126 : decode b_Mo_ownCall 126 = .ok (.goto 115, 3) := by decide +kernel
theorem d_Mo_ownCall_129 : decode b_Mo_ownCall 129 = .ok (.aload_n 0, 1) := by decide +kernel
theorem d_Mo_ownCall_130 : decode b_Mo_ownCall 130 = .ok (.iload_n 1, 1) := by decide +kernel
theorem d_Mo_ownCall_131 : decode b_Mo_ownCall 131 = .ok (.iload 5, 2) := by decide +kernel
theorem d_Mo_ownCall_133 : decode b_Mo_ownCall 133 = .ok (.iload 4, 2) := by decide +kernel
theorem d_Mo_ownCall_135 : decode b_Mo_ownCall 135 = .ok (.invokevirtual 142, 3) := by decide +kernel
theorem d_Mo_ownCall_138 : decode b_Mo_ownCall 138 = .ok (.istore 6, 2) := by decide +kernel
theorem d_Mo_ownCall_140 : decode b_Mo_ownCall 140 = .ok (.iconst 2, 1) := by decide +kernel
theorem d_Mo_ownCall_141 : decode b_Mo_ownCall 141 = .ok (.istore 7, 2) := by decide +kernel
theorem d_Mo_ownCall_143 : decode b_Mo_ownCall 143 = .ok (.goto 98, 3) := by decide +kernel
theorem d_Mo_ownCall_146 : decode b_Mo_ownCall 146 = .ok (.aload_n 0, 1) := by decide +kernel
theorem d_Mo_ownCall_147 : decode b_Mo_ownCall 147 = .ok (.iload_n 1, 1) := by decide +kernel
theorem d_Mo_ownCall_148 : decode b_Mo_ownCall 148 = .ok (.iload 4, 2) := by decide +kernel
theorem d_Mo_ownCall_150 : decode b_Mo_ownCall 150 = .ok (.invokevirtual 146, 3) := by decide +kernel
theorem d_Mo_ownCall_153 : decode b_Mo_ownCall 153 = .ok (.istore 6, 2) := by decide +kernel
theorem d_Mo_ownCall_155 : decode b_Mo_ownCall 155 = .ok (.goto 86, 3) := by decide +kernel
theorem d_Mo_ownCall_158 : decode b_Mo_ownCall 158 = .ok (.aload_n 0, 1) := by decide +kernel
theorem d_Mo_ownCall_159 : decode b_Mo_ownCall 159 = .ok (.iload_n 1, 1) := by decide +kernel
theorem d_Mo_ownCall_160 : decode b_Mo_ownCall 160 = .ok (.iload 4, 2) := by decide +kernel
theorem d_Mo_ownCall_162 : decode b_Mo_ownCall 162 = .ok (.invokevirtual 150, 3) := by decide +kernel
theorem d_Mo_ownCall_165 : decode b_Mo_ownCall 165 = .ok (.istore 6, 2) := by decide +kernel
theorem d_Mo_ownCall_167 : decode b_Mo_ownCall 167 = .ok (.goto 74, 3) := by decide +kernel
theorem d_Mo_ownCall_170 : decode b_Mo_ownCall 170 = .ok (.aload_n 0, 1) := by decide +kernel
theorem d_Mo_ownCall_171 : decode b_Mo_ownCall 171 = .ok (.iload_n 1, 1) := by decide +kernel
theorem d_Mo_ownCall_172 : decode b_Mo_ownCall 172 = .ok (.iload 5, 2) := by decide +kernel
theorem d_Mo_ownCall_174 : decode b_Mo_ownCall 174 = .ok (.iload 4, 2) := by decide +kernel
theorem d_Mo_ownCall_176 : decode b_Mo_ownCall 176 = .ok (.invokevirtual 153, 3) := by decide +kernel
theorem d_Mo_ownCall_179 : decode b_Mo_ownCall 179 = .ok (.iconst 2, 1) := by decide +kernel
theorem d_Mo_ownCall_180 : decode b_Mo_ownCall 180 = .ok (.istore 7, 2) := by decide +kernel
theorem d_Mo_ownCall_182 : decode b_Mo_ownCall 182 = .ok (.goto 59, 3) := by decide +kernel
theorem d_Mo_ownCall_185 : decode b_Mo_ownCall 185 = .ok (.aload_n 0, 1) := by decide +kernel
theorem d_Mo_ownCall_186 : decode b_Mo_ownCall 186 = .ok (.iload_n 1, 1) := by decide +kernel
theorem d_Mo_ownCall_187 : decode b_Mo_ownCall 187 = .ok (.iload 4, 2) := by decide +kernel
theorem d_Mo_ownCall_189 : decode b_Mo_ownCall 189 = .ok (.invokevirtual 156, 3) := by decide +kernel
theorem d_Mo_ownCall_192 : decode b_Mo_ownCall 192 = .ok (.istore 6, 2) := by decide +kernel
theorem d_Mo_ownCall_194 : decode b_Mo_ownCall 194 = .ok (.goto 47, 3) := by decide +kernel
theorem d_Mo_ownCall_197 : decode b_Mo_ownCall 197 = .ok (.aload_n 0, 1) := by decide +kernel
theorem d_Mo_ownCall_198 : decode b_Mo_ownCall 198 = .ok (.iload_n 1, 1) := by decide +kernel
theorem d_Mo_ownCall_199 : decode b_Mo_ownCall 199 = .ok (.iload_n 2, 1) := by decide +kernel
theorem d_Mo_ownCall_200 : decode b_Mo_ownCall 200 = .ok (.bipush 7, 2) := by decide +kernel
theorem d_Mo_ownCall_202 : decode b_Mo_ownCall 202 = .ok (.if_icmp .ne 7, 3) := by decide +kernel
theorem d_Mo_ownCall_205 : decode b_Mo_ownCall 205 = .ok (.iconst 1, 1) := by decide +kernel
theorem d_Mo_ownCall_206 : decode b_Mo_ownCall 206 = .ok (.goto 4, 3) := by decide +kernel
theorem d_Mo_ownCall_209 : decode b_Mo_ownCall 209 = .ok (.iconst 0, 1) := by decide +kernel
theorem d_Mo_ownCall_210 : decode b_Mo_ownCall 210 = .ok (.aload_n 3, 1) := by decide +kernel
theorem d_Mo_ownCall_211 : decode b_Mo_ownCall 211 = .ok (.getfield 133, 3) := by decide +kernel
theorem d_Mo_ownCall_214 : decode b_Mo_ownCall 214 = .ok (.aload_n 3, 1) := by decide +kernel
theorem d_Mo_ownCall_215 : decode b_Mo_ownCall 215 = .ok (.getfield 136, 3) := by decide +kernel
theorem d_Mo_ownCall_218 : decode b_Mo_ownCall 218 = .ok (.iconst 3, 1) := by decide +kernel
theorem d_Mo_ownCall_219 : decode b_Mo_ownCall 219 = .ok (.isub, 1) := by decide +kernel
theorem d_Mo_ownCall_220 : decode b_Mo_ownCall 220 = .ok (.iaload, 1) := by decide +kernel
theorem d_Mo_ownCall_221 : decode b_Mo_ownCall 221 = .ok (.iload 5, 2) := by decide +kernel
theorem d_Mo_ownCall_223 : decode b_Mo_ownCall 223 = .ok (.iload 4, 2) := by decide +kernel
theorem d_Mo_ownCall_225 : decode b_Mo_ownCall 225 = .ok (.invokevirtual 159, 3) := by decide +kernel
theorem d_Mo_ownCall_228 : decode b_Mo_ownCall 228 = .ok (.iconst 3, 1) := by decide +kernel
theorem d_Mo_ownCall_229 : decode b_Mo_ownCall 229 = .ok (.istore 7, 2) := by decide +kernel
theorem d_Mo_ownCall_231 : decode b_Mo_ownCall 231 = .ok (.goto 10, 3) := by decide +kernel
theorem d_Mo_ownCall_234 : decode b_Mo_ownCall 234 = .ok (.aload_n 3, 1) := by decide +kernel
theorem d_Mo_ownCall_235 : decode b_Mo_ownCall 235 = .ok (.iconst 1, 1) := by decide +kernel
theorem d_Mo_ownCall_236 : decode b_Mo_ownCall 236 = .ok (.iload 4, 2) := by decide +kernel
theorem d_Mo_ownCall_238 : decode b_Mo_ownCall 238 = .ok (.invokevirtual 85, 3) := by decide +kernel
theorem d_Mo_ownCall_241 : decode b_Mo_ownCall 241 = .ok (.iload 6, 2) := by decide +kernel
theorem d_Mo_ownCall_243 : decode b_Mo_ownCall 243 = .ok (.ifCond .eq 22, 3) := by decide +kernel
theorem d_Mo_ownCall_246 : decode b_Mo_ownCall 246 = .ok (.aload_n 3, 1) := by decide +kernel
theorem d_Mo_ownCall_247 : decode b_Mo_ownCall 247 = .ok (.aload_n 3, 1) := by decide +kernel
theorem d_Mo_ownCall_248 : decode b_Mo_ownCall 248 = .ok (.getfield 136, 3) := by decide +kernel
theorem d_Mo_ownCall_251 : decode b_Mo_ownCall 251 = .ok (.iload 7, 2) := by decide +kernel
theorem d_Mo_ownCall_253 : decode b_Mo_ownCall 253 = .ok (.isub, 1) := by decide +kernel
theorem d_Mo_ownCall_254 : decode b_Mo_ownCall 254 = .ok (.putfield 136, 3) := by decide +kernel
theorem d_Mo_ownCall_257 : decode b_Mo_ownCall 257 = .ok (.aload_n 3, 1) := by decide +kernel
theorem d_Mo_ownCall_258 : decode b_Mo_ownCall 258 = .ok (.aload_n 0, 1) := by decide +kernel
theorem d_Mo_ownCall_259 : decode b_Mo_ownCall 259 = .ok (.getfield 111, 3) := by decide +kernel
theorem d_Mo_ownCall_262 : decode b_Mo_ownCall 262 = .ok (.invokevirtual 163, 3) := by decide +kernel
theorem d_Mo_ownCall_265 : decode b_Mo_ownCall 265 = .ok (.iload 6, 2) := by decide +kernel
theorem d_Mo_ownCall_267 : decode b_Mo_ownCall 267 = .ok (.ireturn, 1) := by decide +kernel
theorem q_Mo_ownCall : px_y y_Mo_ownCall 2 := by unfold px_y; decide +kernel
set_option maxHeartbeats 4000000 in
set_option maxRecDepth 100000 in
theorem c_mo_ownCall (l : Launch) (D : va_G) (cs : Nat → ClassId) (RR : Nat → Int) (j9 : Nat) (mo : Nat) (mr : Nat → Nat) (mf : Nat → Int32) (md : Nat → Nat → Int32) (hq : Nat → Nat) (qr : Nat → Nat → Nat) (QO : Nat → Option Nat) (QF : Nat → Nat → Int32) (QA : Nat → Nat → Nat → Int32) (PG : Nat → Pgs) (p0 p1 : Int32)  (g0 : 0 ≤ p0.toInt) (g1 : p0.toInt < 13) (g2 : 0 ≤ (mf 7).toInt) (g3 : (mf 7).toInt ≤ 100) (g4 : 0 ≤ (mf 8).toInt) (g5 : (mf 8).toInt ≤ 512) (g6 : 0 ≤ p1.toInt) (g7 : p1.toInt < 10) (g8 : (QF p0.toNatClampNeg 1).toInt = 1) (hpr : PrA PG RR QO QF QA) (hpg : PgA PG) (hpo : PoT (PG j9) (RR p0.toNatClampNeg) p1.toInt (QF p0.toNatClampNeg) (QA p0.toNatClampNeg)) : MetI l y_Mo_ownCall b_Mo_ownCall 8 (.boolean) D cs 5 220 (0) (0) [.ref mo, .int p0, .int p1] [wd_Mo cs mo mr (fun _ => none) mf md (gMo PG hq), fm 13 (fPr cs hq qr QO QF QA), fm 8 (fPg cs PG)] (fun _ => True) (fun v ps => ∃ (mf' : Nat → Int32) (md' : Nat → Nat → Int32) (QO' : Nat → Option Nat) (QF' : Nat → Nat → Int32) (QA' : Nat → Nat → Nat → Int32), (ps = [wd_Mo cs mo mr (fun _ => none) mf' md' (gMo PG hq), fm 13 (fPr cs hq qr QO' QF' QA'), fm 8 (fPg cs PG)]) ∧ (0 ≤ v.toInt) ∧ (v.toInt ≤ 1) ∧ (OwQ v.toInt (PrA PG RR QO' QF' QA') (PrX PG RR QO' QF' QA' p0.toNatClampNeg ∧ PdT (PG j9) (RR p0.toNatClampNeg) (QF' p0.toNatClampNeg) (QA' p0.toNatClampNeg))) ∧ (KpO QO QF QO' QF' p0.toNatClampNeg) ∧ ((mf' 0).toInt = (mf 0).toInt) ∧ ((mf' 2).toInt = (mf 2).toInt) ∧ ((mf' 3).toInt = (mf 3).toInt) ∧ ((mf' 7).toInt = (mf 7).toInt) ∧ ((mf' 8).toInt = (mf 8).toInt) ∧ ((mf' 10).toInt = (mf 10).toInt)) := by
  refine px_enter (by decide) (Nat.le_of_ble_eq_true rfl) ?_
  intro p e s m below meth c A ls hAe S hr hlk hnm hA hT hX hw hl
  replace hl : lv_has ls 8 [(0, .ref mo), (1, .int p0), (2, .int p1)] := hl
  have lp0 := Int32.le_toInt p0
  have up0 := Int32.toInt_lt p0
  have lp1 := Int32.le_toInt p1
  have up1 := Int32.toInt_lt p1
  have cst0 : (0 : Int32).toInt = 0 := rfl
  have cst1 : (1 : Int32).toInt = 1 := rfl
  have cst2 : (2 : Int32).toInt = 2 := rfl
  have cst3 : (3 : Int32).toInt = 3 := rfl
  have cst7 : (7 : Int32).toInt = 7 := rfl
  have hkp : KpP QO QF QA QO QF QA p0.toNatClampNeg := KpP.rf
  have hpn := hpo.num
  have hol := os_l (own := p1.toInt)
  refine lv_aload_n S.x S.b d_Mo_ownCall_0 rfl (lv_at hl 0 rfl) ?_
  refine px_get S k_Mo hT hw 0 0 5 (v := .ref (mr 5)) rfl rfl rfl (by decide) m11_83 d_Mo_ownCall_1 ?_
  refine lv_iload_n S.x S.b d_Mo_ownCall_4 rfl (lv_at hl 1 rfl) ?_
  refine px_aaldS S hT hw 0 3 10 (n := 13) (f := ((gMo PG hq) 5)) rfl rfl rfl (x := p0) (vp_in_iff.mpr (by first | exact oz_59feca6c45 g0 g1 | (constructor <;> omega))) (sk := (hq p0.toNatClampNeg)) rfl d_Mo_ownCall_5 ?_
  refine lv_astore_n (lv' := [(3, .ref (hq p0.toNatClampNeg)), (0, .ref mo), (1, .int p0), (2, .int p1)]) S.x S.b d_Mo_ownCall_6 rfl hl (by decide) rfl (fun ls hl => ?_)
  refine lv_aload_n S.x S.b d_Mo_ownCall_7 rfl (lv_at hl 0 rfl) ?_
  have hw : pw D A s.heap _ _ [wd_Mo cs mo mr (fun _ => none) mf md (gMo PG hq), fm 8 (fPg cs PG), fm 13 (fPr cs hq qr QO QF QA)] := hw.sub [0, 2, 1] rfl rfl
  have hc1 := cl_nat (x := p0) (by first | exact g0 | omega)
  have hi1 : p0.toNatClampNeg < 13 := by first | exact oz_9995642664 hc1 g1 | omega
  have hw : pw D A s.heap _ _ [wd_Mo cs mo mr (fun _ => none) mf md (gMo PG hq), fm 8 (fPg cs PG), fo 13 (fPr cs hq qr QO QF QA) p0.toNatClampNeg, wd_Mpr cs (hq p0.toNatClampNeg) (qr p0.toNatClampNeg) (fun _ => QO p0.toNatClampNeg) (QF p0.toNatClampNeg) (QA p0.toNatClampNeg) (fun _ _ => none)] := fm_out (pr := [wd_Mo cs mo mr (fun _ => none) mf md (gMo PG hq), fm 8 (fPg cs PG)]) (T := fPr cs hq qr QO QF QA) hw hi1
  have hps1 := hpr.1 p0.toNatClampNeg hi1
  have hpb1 := hps1.1
  unfold PsB at hpb1
  refine px_get S k_Mpr hT hw 3 0 9 (v := .ref ((qr p0.toNatClampNeg) 9)) rfl rfl rfl (by decide) m10_239 d_Mo_ownCall_8 ?_
  refine lv_aload_n S.x S.b d_Mo_ownCall_11 rfl (lv_at hl 0 rfl) ?_
  refine px_get S k_Mpr hT hw 3 0 10 (v := .int ((QF p0.toNatClampNeg) 10)) rfl rfl rfl (by decide) m11_1 d_Mo_ownCall_12 ?_
  refine lv_iconst (v := 1) S.x S.b d_Mo_ownCall_15 (by decide) ?_
  refine lv_isub S.x S.b d_Mo_ownCall_16 ?_
  have lr2 := Int32.le_toInt ((QF p0.toNatClampNeg) 10)
  have ur2 := Int32.toInt_lt ((QF p0.toNatClampNeg) 10)
  refine lv_topi (fun z3 ez3 => ?_)
  have tz3 : z3.toInt = (((QF p0.toNatClampNeg) 10).toInt - (1 : Int) + 2147483648) % 4294967296 - 2147483648 := by rw [ez3]; exact i_sub ((QF p0.toNatClampNeg) 10) 1
  have lz3 := Int32.le_toInt z3
  have uz3 := Int32.toInt_lt z3
  try replace tz3 : z3.toInt = ((QF p0.toNatClampNeg) 10).toInt - (1 : Int) := by omega
  refine px_iald S hT hw 3 2 (n := 62500) (f := ((QA p0.toNatClampNeg) 9)) rfl (ga_Mpr_9 _ _ _ _ _ _ _) (x := z3) (vp_in_iff.mpr (by constructor <;> omega)) d_Mo_ownCall_17 ?_
  refine lv_topi (fun z4 ez4 => ?_)
  have lz4 := Int32.le_toInt z4
  have uz4 := Int32.toInt_lt z4
  have hx4 : z4 = (QA p0.toNatClampNeg) 9 ((QF p0.toNatClampNeg 10).toInt - 1).toNat := at_k (qa := QA p0.toNatClampNeg) (k := 9) ez4 (by omega) (by omega)
  refine lv_istore (lv' := [(4, .int z4), (3, .ref (hq p0.toNatClampNeg)), (0, .ref mo), (1, .int p0), (2, .int p1)]) S.x S.b d_Mo_ownCall_18 hl (by decide) rfl (fun ls hl => ?_)
  refine lv_aload_n S.x S.b d_Mo_ownCall_20 rfl (lv_at hl 1 rfl) ?_
  refine px_get S k_Mpr hT hw 3 0 10 (v := .int ((QF p0.toNatClampNeg) 10)) rfl rfl rfl (by decide) m11_1 d_Mo_ownCall_21 ?_
  refine lv_iconst (v := 1) S.x S.b d_Mo_ownCall_24 (by decide) ?_
  refine lv_icmp_le (tgt := 42) S.x S.b d_Mo_ownCall_25 (by decide) (fun c5 => ?_) (fun c5 => ?_)
  · have nc5 : ((QF p0.toNatClampNeg) 10).toInt ≤ (1 : Int) := (i_le (x := ((QF p0.toNatClampNeg) 10)) (y := 1)).mp c5
    refine lv_iconst (v := 0) S.x S.b d_Mo_ownCall_42 (by decide) ?_
    refine lv_istore (lv' := [(5, .int 0), (4, .int z4), (3, .ref (hq p0.toNatClampNeg)), (0, .ref mo), (1, .int p0), (2, .int p1)]) S.x S.b d_Mo_ownCall_43 hl (by decide) rfl (fun ls hl => ?_)
    refine lv_aload_n S.x S.b d_Mo_ownCall_45 rfl (lv_at hl 3 rfl) ?_
    refine lv_iconst (v := 0) S.x S.b d_Mo_ownCall_46 (by decide) ?_
    refine px_put S k_Mo hT hw 0 0 9 rfl rfl (by decide) m11_87 rfl rfl rfl (Nat.le_of_ble_eq_true rfl) d_Mo_ownCall_47 (w' := wd_Mo cs mo mr (fun _ => none) (upd mf 9 0) md (gMo PG hq)) (ps' := [wd_Mo cs mo mr (fun _ => none) (upd mf 9 0) md (gMo PG hq), fm 8 (fPg cs PG), fo 13 (fPr cs hq qr QO QF QA) p0.toNatClampNeg, wd_Mpr cs (hq p0.toNatClampNeg) (qr p0.toNatClampNeg) (fun _ => QO p0.toNatClampNeg) (QF p0.toNatClampNeg) (QA p0.toNatClampNeg) (fun _ _ => none)]) rfl rfl (fun H locs hw => ?_)
    refine lv_iconst (v := 1) S.x S.b d_Mo_ownCall_50 (by decide) ?_
    refine lv_istore (lv' := [(6, .int 1), (5, .int 0), (4, .int z4), (3, .ref (hq p0.toNatClampNeg)), (0, .ref mo), (1, .int p0), (2, .int p1)]) S.x S.b d_Mo_ownCall_51 hl (by decide) rfl (fun ls hl => ?_)
    refine lv_iconst (v := 1) S.x S.b d_Mo_ownCall_53 (by decide) ?_
    refine lv_istore (lv' := [(7, .int 1), (6, .int 1), (5, .int 0), (4, .int z4), (3, .ref (hq p0.toNatClampNeg)), (0, .ref mo), (1, .int p0), (2, .int p1)]) S.x S.b d_Mo_ownCall_54 hl (by decide) rfl (fun ls hl => ?_)
    refine lv_iload_n S.x S.b d_Mo_ownCall_56 rfl (lv_at hl 7 rfl) ?_
    refine px_tableD S (dt := 234) [(108, [0]), (120, [1]), (129, [2]), (146, [3]), (158, [4]), (170, [5]), (185, [6]), (197, [7, 8])] d_Mo_ownCall_57 (by decide +kernel) (by decide) (by decide +kernel) ?_ ?_
    · intro hdf_57
      refine lv_aload_n S.x S.b d_Mo_ownCall_234 rfl (lv_at hl 4 rfl) ?_
      refine lv_iconst (v := 1) S.x S.b d_Mo_ownCall_235 (by decide) ?_
      refine lv_iload S.x S.b d_Mo_ownCall_236 (lv_at hl 3 rfl) ?_
      refine px_callv (pr := [wd_Mo cs mo mr (fun _ => none) (upd mf 9 0) md (gMo PG hq), fm 8 (fPg cs PG), fo 13 (fPr cs hq qr QO QF QA) p0.toNatClampNeg]) (px_runV (As := [.int 1, .int z4]) (rest := []) S (c_mq_end l D cs (hq p0.toNatClampNeg) (qr p0.toNatClampNeg) (fun _ _ => none) (fun _ => QO p0.toNatClampNeg) (QA p0.toNatClampNeg) (QF p0.toNatClampNeg) 1 z4   _) hT (pr := [wd_Mo cs mo mr (fun _ => none) (upd mf 9 0) md (gMo PG hq), fm 8 (fPg cs PG), fo 13 (fPr cs hq qr QO QF QA) p0.toNatClampNeg]) (pcs := [wd_Mpr cs (hq p0.toNatClampNeg) (qr p0.toNatClampNeg) (fun _ => QO p0.toNatClampNeg) (QF p0.toNatClampNeg) (QA p0.toNatClampNeg) (fun _ _ => none)]) hw px_X.tt (px_recv hT hw 3 0 rfl rfl rfl) m13_177 m14_35 m13_175 m13_176 m1_22 q_Mpr_end ⟨Nat.le_of_ble_eq_true rfl, Nat.le_of_ble_eq_true rfl⟩ hl.1 rfl (Nat.le_of_ble_eq_true rfl) d_Mo_ownCall_238 ⟨Nat.le_of_ble_eq_true rfl, Nat.le_of_ble_eq_true rfl⟩) hw hA (fun p8 H locs hp8 hw => ?_)
      obtain ⟨qf7, rfl, e10, e11, e12, e13, e14, e15, e16, e17, e18, e19, e20, e21, e22, e23⟩ := hp8
      replace e10 : (qf7 2).toInt = (1 : Int) := e10
      replace e11 : (qf7 1).toInt = ((QF p0.toNatClampNeg) 1).toInt := e11
      replace e12 : (qf7 4).toInt = ((QF p0.toNatClampNeg) 4).toInt := e12
      replace e13 : (qf7 5).toInt = ((QF p0.toNatClampNeg) 5).toInt := e13
      replace e14 : (qf7 6).toInt = ((QF p0.toNatClampNeg) 6).toInt := e14
      replace e15 : (qf7 7).toInt = ((QF p0.toNatClampNeg) 7).toInt := e15
      replace e16 : (qf7 10).toInt = ((QF p0.toNatClampNeg) 10).toInt := e16
      replace e17 : (qf7 11).toInt = ((QF p0.toNatClampNeg) 11).toInt := e17
      replace e18 : (qf7 12).toInt = ((QF p0.toNatClampNeg) 12).toInt := e18
      replace e19 : (qf7 13).toInt = ((QF p0.toNatClampNeg) 13).toInt := e19
      replace e20 : (qf7 14).toInt = ((QF p0.toNatClampNeg) 14).toInt := e20
      replace e21 : (qf7 21).toInt = ((QF p0.toNatClampNeg) 21).toInt := e21
      replace e22 : (qf7 23).toInt = ((QF p0.toNatClampNeg) 23).toInt := e22
      replace e23 : (qf7 24).toInt = ((QF p0.toNatClampNeg) 24).toInt := e23
      replace hw : pw D A s.heap H locs [wd_Mo cs mo mr (fun _ => none) (upd mf 9 0) md (gMo PG hq), fm 8 (fPg cs PG), fo 13 (fPr cs hq qr QO QF QA) p0.toNatClampNeg, wd_Mpr cs (hq p0.toNatClampNeg) (qr p0.toNatClampNeg) (fun _ => QO p0.toNatClampNeg) qf7 (QA p0.toNatClampNeg) (fun _ _ => none)] := hw
      refine lv_iload S.x S.b d_Mo_ownCall_241 (lv_at hl 1 rfl) ?_
      refine lv_if_eq (tgt := 265) S.x S.b d_Mo_ownCall_243 (by decide) (fun c24 => ?_) (fun c24 => ?_)
      · exact absurd c24 (by decide)
      ·
        refine lv_aload_n S.x S.b d_Mo_ownCall_246 rfl (lv_at hl 4 rfl) ?_
        have hkf := hkp.2.1; unfold KpF at hkf
        refine lv_aload_n S.x S.b d_Mo_ownCall_247 rfl (lv_at hl 4 rfl) ?_
        refine px_get S k_Mpr hT hw 3 0 10 (v := .int (qf7 10)) rfl rfl rfl (by decide) m11_1 d_Mo_ownCall_248 ?_
        refine lv_iload S.x S.b d_Mo_ownCall_251 (lv_at hl 0 rfl) ?_
        refine lv_isub S.x S.b d_Mo_ownCall_253 ?_
        have lr25 := Int32.le_toInt (qf7 10)
        have ur25 := Int32.toInt_lt (qf7 10)
        refine lv_topi (fun z26 ez26 => ?_)
        have tz26 : z26.toInt = ((qf7 10).toInt - (1 : Int) + 2147483648) % 4294967296 - 2147483648 := by rw [ez26]; exact i_sub (qf7 10) 1
        have lz26 := Int32.le_toInt z26
        have uz26 := Int32.toInt_lt z26
        try replace tz26 : z26.toInt = (qf7 10).toInt - (1 : Int) := by omega
        refine px_put S k_Mpr hT hw 3 0 10 rfl rfl (by decide) m11_1 rfl rfl rfl (Nat.le_of_ble_eq_true rfl) d_Mo_ownCall_254 (w' := wd_Mpr cs (hq p0.toNatClampNeg) (qr p0.toNatClampNeg) (fun _ => QO p0.toNatClampNeg) (upd qf7 10 z26) (QA p0.toNatClampNeg) (fun _ _ => none)) (ps' := [wd_Mo cs mo mr (fun _ => none) (upd mf 9 0) md (gMo PG hq), fm 8 (fPg cs PG), fo 13 (fPr cs hq qr QO QF QA) p0.toNatClampNeg, wd_Mpr cs (hq p0.toNatClampNeg) (qr p0.toNatClampNeg) (fun _ => QO p0.toNatClampNeg) (upd qf7 10 z26) (QA p0.toNatClampNeg) (fun _ _ => none)]) rfl rfl (fun H locs hw => ?_)
        refine lv_aload_n S.x S.b d_Mo_ownCall_257 rfl (lv_at hl 4 rfl) ?_
        refine lv_aload_n S.x S.b d_Mo_ownCall_258 rfl (lv_at hl 5 rfl) ?_
        refine px_get S k_Mo hT hw 0 0 9 (v := .int 0) rfl rfl rfl (by decide) m11_87 d_Mo_ownCall_259 ?_
        refine px_callv (pr := [wd_Mo cs mo mr (fun _ => none) (upd mf 9 0) md (gMo PG hq), fm 8 (fPg cs PG), fo 13 (fPr cs hq qr QO QF QA) p0.toNatClampNeg]) (px_runV (As := [.int 0]) (rest := []) S (c_mq_give l D cs (hq p0.toNatClampNeg) (qr p0.toNatClampNeg) (fun _ _ => none) (fun _ => QO p0.toNatClampNeg) (upd qf7 10 z26) (QA p0.toNatClampNeg) 0  (show 0 ≤ z26.toInt from by first | with_reducible rfl | with_reducible assumption | omega) (show z26.toInt < 62500 from by first | exact oz_2e4f4c116e tz26 e16 nc5 | omega) _) hT (pr := [wd_Mo cs mo mr (fun _ => none) (upd mf 9 0) md (gMo PG hq), fm 8 (fPg cs PG), fo 13 (fPr cs hq qr QO QF QA) p0.toNatClampNeg]) (pcs := [wd_Mpr cs (hq p0.toNatClampNeg) (qr p0.toNatClampNeg) (fun _ => QO p0.toNatClampNeg) (upd qf7 10 z26) (QA p0.toNatClampNeg) (fun _ _ => none)]) hw px_X.tt (px_recv hT hw 3 0 rfl rfl rfl) m13_161 m14_111 m13_159 m13_160 m1_22 q_Mpr_give ⟨Nat.le_of_ble_eq_true rfl, Nat.le_of_ble_eq_true rfl⟩ hl.1 rfl (Nat.le_of_ble_eq_true rfl) d_Mo_ownCall_262 ⟨Nat.le_of_ble_eq_true rfl, Nat.le_of_ble_eq_true rfl⟩) hw hA (fun p31 H locs hp31 hw => ?_)
        obtain ⟨qf29, qa30, rfl, e33, e34, e35, e36, e37, e38, e39, e40, e41, e42, e43, e44, e45, e46, e47, e48⟩ := hp31
        replace e33 : (qf29 10).toInt = z26.toInt + 1 := e33
        replace e34 : (qf29 1).toInt = (qf7 1).toInt := e34
        replace e35 : (qf29 2).toInt = (qf7 2).toInt := e35
        replace e36 : (qf29 3).toInt = (qf7 3).toInt := e36
        replace e37 : (qf29 4).toInt = (qf7 4).toInt := e37
        replace e38 : (qf29 5).toInt = (qf7 5).toInt := e38
        replace e39 : (qf29 6).toInt = (qf7 6).toInt := e39
        replace e40 : (qf29 7).toInt = (qf7 7).toInt := e40
        replace e41 : (qf29 11).toInt = (qf7 11).toInt := e41
        replace e42 : (qf29 12).toInt = (qf7 12).toInt := e42
        replace e43 : (qf29 13).toInt = (qf7 13).toInt := e43
        replace e44 : (qf29 14).toInt = (qf7 14).toInt := e44
        replace e45 : (qf29 21).toInt = (qf7 21).toInt := e45
        replace e46 : (qf29 23).toInt = (qf7 23).toInt := e46
        replace e47 : (qf29 24).toInt = (qf7 24).toInt := e47
        replace e48 : NuU (QA p0.toNatClampNeg) qa30 9 z26.toInt (0 : Int32) := e48
        skip
        replace hw : pw D A s.heap H locs [wd_Mo cs mo mr (fun _ => none) (upd mf 9 0) md (gMo PG hq), fm 8 (fPg cs PG), fo 13 (fPr cs hq qr QO QF QA) p0.toNatClampNeg, wd_Mpr cs (hq p0.toNatClampNeg) (qr p0.toNatClampNeg) (fun _ => QO p0.toNatClampNeg) qf29 qa30 (fun _ _ => none)] := hw
        refine lv_iload S.x S.b d_Mo_ownCall_265 (lv_at hl 1 rfl) ?_
        have hw := fpr_in (pr := [wd_Mo cs mo mr (fun _ => none) (upd mf 9 0) md (gMo PG hq), fm 8 (fPg cs PG)]) hw hi1
        obtain ⟨QO49, hu_QO49⟩ : ∃ y : Nat → Option Nat, y = va_up QO p0.toNatClampNeg ((fun _ => QO p0.toNatClampNeg) 0) := ⟨_, rfl⟩
        obtain ⟨QF50, hu_QF50⟩ : ∃ y : Nat → Nat → Int32, y = va_up QF p0.toNatClampNeg qf29 := ⟨_, rfl⟩
        obtain ⟨QA51, hu_QA51⟩ : ∃ y : Nat → Nat → Nat → Int32, y = va_up QA p0.toNatClampNeg qa30 := ⟨_, rfl⟩
        have hw : pw D A s.heap _ _ [wd_Mo cs mo mr (fun _ => none) (upd mf 9 0) md (gMo PG hq), fm 8 (fPg cs PG), fm 13 (fPr cs hq qr QO49 QF50 QA51)] := (by rw [hu_QO49, hu_QF50, hu_QA51]; exact hw)
        have hpx : PrX PG RR QO49 QF50 QA51 p0.toNatClampNeg := (by rw [hu_QO49, hu_QF50, hu_QA51]; exact PrX.up (hpr.px hi1) (show (0 ≤ (qf29 1).toInt ∧ (qf29 1).toInt ≤ 1) ∧ (0 ≤ (qf29 21).toInt ∧ (qf29 21).toInt ≤ 4) ∧ (0 ≤ (qf29 23).toInt ∧ (qf29 23).toInt ≤ 4) ∧ (0 ≤ (qf29 24).toInt ∧ (qf29 24).toInt ≤ 1000000) ∧ (0 ≤ (qf29 6).toInt ∧ (qf29 6).toInt ≤ 3) ∧ (0 ≤ (qf29 7).toInt ∧ (qf29 7).toInt ≤ 1) from by first | with_reducible rfl | with_reducible assumption | omega) (show (qf29 1).toInt = (QF p0.toNatClampNeg 1).toInt from by first | exact oz_1687f4cc65 e11 e34 | omega) (show (QF p0.toNatClampNeg 6).toInt ≤ (qf29 6).toInt from by first | exact oz_d01699e821 e14 e39 | omega))
        have hpd : PdT (PG j9) (RR p0.toNatClampNeg) (QF50 p0.toNatClampNeg) (QA51 p0.toNatClampNeg) := (by rw [hu_QF50, hu_QA51, va_up_s, va_up_s]; exact PoT.ans hpo (show (qf29 4).toInt = (QF p0.toNatClampNeg 4).toInt ∧ (qf29 5).toInt = (QF p0.toNatClampNeg 5).toInt ∧ (qf29 11).toInt = (QF p0.toNatClampNeg 11).toInt ∧ (qf29 12).toInt = (QF p0.toNatClampNeg 12).toInt ∧ (qf29 13).toInt = (QF p0.toNatClampNeg 13).toInt ∧ (qf29 14).toInt = (QF p0.toNatClampNeg 14).toInt from by first | exact oz_e3309c85a3 e12 e37 e13 e38 e17 e41 e18 e42 e19 e43 e20 e44 | omega) (show (qf29 10).toInt = (QF p0.toNatClampNeg 10).toInt - ((oslots p1.toInt).length : Int) + 1 from by first | with_reducible rfl | with_reducible assumption | omega) (show (qf29 24).toInt = (QF p0.toNatClampNeg 24).toInt ∨ (p1.toInt = 1 ∧ (qf29 24).toInt = (QF p0.toNatClampNeg 24).toInt + 1) from by first | with_reducible rfl | with_reducible assumption | omega) (fun i9 q9 => absurd (by rw [hkp.2.2 8 (by decide) (by decide)]) q9) (fun k9 a9 b9 c9 d9 => hkp.2.2 k9 b9 c9) (show NuU _ _ 9 ((QF p0.toNatClampNeg 10).toInt - ((oslots p1.toInt).length : Int)) _ from (by have q8 := e48; rw [show (z26.toInt) = (QF p0.toNatClampNeg 10).toInt - ((oslots p1.toInt).length : Int) by omega] at q8; exact q8)))
        have hko : KpO QO QF QO49 QF50 p0.toNatClampNeg := (by rw [hu_QO49, hu_QF50]; refine ⟨by rw [va_up_s]; first | done | exact hkp.1, ?_⟩; rw [va_up_s]; exact (show (qf29 1).toInt = (QF p0.toNatClampNeg 1).toInt ∧ (qf29 7).toInt = (QF p0.toNatClampNeg 7).toInt ∧ (qf29 11).toInt = (QF p0.toNatClampNeg 11).toInt from by first | exact oz_c24f474a2b e11 e34 e15 e40 e17 e41 | omega))
        have hw : pw D A s.heap _ _ [wd_Mo cs mo mr (fun _ => none) (upd mf 9 0) md (gMo PG hq), fm 13 (fPr cs hq qr QO49 QF50 QA51), fm 8 (fPg cs PG)] := hw.sub [0, 2, 1] rfl rfl
        exact px_iret (v := 1) S hr rfl hlk hAe hw (Nat.le_of_ble_eq_true rfl) (Nat.le_of_ble_eq_true rfl) (⟨(upd mf 9 0), md, QO49, QF50, QA51, rfl, (show 0 ≤ (1 : Int) from by first | decide | omega), (show (1 : Int) ≤ 1 from by first | decide | omega), (show OwQ (1 : Int) (PrA PG RR QO49 QF50 QA51) (PrX PG RR QO49 QF50 QA51 p0.toNatClampNeg ∧ PdT (PG j9) (RR p0.toNatClampNeg) (QF50 p0.toNatClampNeg) (QA51 p0.toNatClampNeg)) from (Or.inr ⟨by omega, hpx, hpd⟩)), (show KpO QO QF QO49 QF50 p0.toNatClampNeg from hko), (show (mf 0).toInt = (mf 0).toInt from rfl), (show (mf 2).toInt = (mf 2).toInt from rfl), (show (mf 3).toInt = (mf 3).toInt from rfl), (show (mf 7).toInt = (mf 7).toInt from rfl), (show (mf 8).toInt = (mf 8).toInt from rfl), (show (mf 10).toInt = (mf 10).toInt from rfl)⟩) d_Mo_ownCall_267
    · refine List.forall_mem_cons.mpr ⟨fun c52 => ?_, List.forall_mem_cons.mpr ⟨fun c52 => ?_, List.forall_mem_cons.mpr ⟨fun c52 => ?_, List.forall_mem_cons.mpr ⟨fun c52 => ?_, List.forall_mem_cons.mpr ⟨fun c52 => ?_, List.forall_mem_cons.mpr ⟨fun c52 => ?_, List.forall_mem_cons.mpr ⟨fun c52 => ?_, List.forall_mem_cons.mpr ⟨fun c52 => ?_, fun _ h => absurd h List.not_mem_nil⟩⟩⟩⟩⟩⟩⟩⟩
      · simp only [List.mem_cons, List.not_mem_nil, or_false] at c52
        refine lv_aload_n S.x S.b d_Mo_ownCall_108 rfl (lv_at hl 5 rfl) ?_
        refine lv_iload S.x S.b d_Mo_ownCall_109 (lv_at hl 3 rfl) ?_
        refine px_put S k_Mo hT hw 0 0 9 rfl rfl (by decide) m11_87 rfl rfl rfl (Nat.le_of_ble_eq_true rfl) d_Mo_ownCall_111 (w' := wd_Mo cs mo mr (fun _ => none) (upd mf 9 z4) md (gMo PG hq)) (ps' := [wd_Mo cs mo mr (fun _ => none) (upd mf 9 z4) md (gMo PG hq), fm 8 (fPg cs PG), fo 13 (fPr cs hq qr QO QF QA) p0.toNatClampNeg, wd_Mpr cs (hq p0.toNatClampNeg) (qr p0.toNatClampNeg) (fun _ => QO p0.toNatClampNeg) (QF p0.toNatClampNeg) (QA p0.toNatClampNeg) (fun _ _ => none)]) rfl rfl (fun H locs hw => ?_)
        refine lv_iconst (v := 2) S.x S.b d_Mo_ownCall_114 (by decide) ?_
        refine lv_istore (lv' := [(7, .int 2), (6, .int 1), (5, .int 0), (4, .int z4), (3, .ref (hq p0.toNatClampNeg)), (0, .ref mo), (1, .int p0), (2, .int p1)]) S.x S.b d_Mo_ownCall_115 hl (by decide) rfl (fun ls hl => ?_)
        refine lv_goto (tgt := 241) S.x S.b d_Mo_ownCall_117 (by decide) ?_
        refine lv_iload S.x S.b d_Mo_ownCall_241 (lv_at hl 1 rfl) ?_
        refine lv_if_eq (tgt := 265) S.x S.b d_Mo_ownCall_243 (by decide) (fun c53 => ?_) (fun c53 => ?_)
        · exact absurd c53 (by decide)
        ·
          refine lv_aload_n S.x S.b d_Mo_ownCall_246 rfl (lv_at hl 4 rfl) ?_
          have hkf := hkp.2.1; unfold KpF at hkf
          refine lv_aload_n S.x S.b d_Mo_ownCall_247 rfl (lv_at hl 4 rfl) ?_
          refine px_get S k_Mpr hT hw 3 0 10 (v := .int ((QF p0.toNatClampNeg) 10)) rfl rfl rfl (by decide) m11_1 d_Mo_ownCall_248 ?_
          refine lv_iload S.x S.b d_Mo_ownCall_251 (lv_at hl 0 rfl) ?_
          refine lv_isub S.x S.b d_Mo_ownCall_253 ?_
          have lr54 := Int32.le_toInt ((QF p0.toNatClampNeg) 10)
          have ur54 := Int32.toInt_lt ((QF p0.toNatClampNeg) 10)
          refine lv_topi (fun z55 ez55 => ?_)
          have tz55 : z55.toInt = (((QF p0.toNatClampNeg) 10).toInt - (2 : Int) + 2147483648) % 4294967296 - 2147483648 := by rw [ez55]; exact i_sub ((QF p0.toNatClampNeg) 10) 2
          have lz55 := Int32.le_toInt z55
          have uz55 := Int32.toInt_lt z55
          try replace tz55 : z55.toInt = ((QF p0.toNatClampNeg) 10).toInt - (2 : Int) := by omega
          refine px_put S k_Mpr hT hw 3 0 10 rfl rfl (by decide) m11_1 rfl rfl rfl (Nat.le_of_ble_eq_true rfl) d_Mo_ownCall_254 (w' := wd_Mpr cs (hq p0.toNatClampNeg) (qr p0.toNatClampNeg) (fun _ => QO p0.toNatClampNeg) (upd (QF p0.toNatClampNeg) 10 z55) (QA p0.toNatClampNeg) (fun _ _ => none)) (ps' := [wd_Mo cs mo mr (fun _ => none) (upd mf 9 z4) md (gMo PG hq), fm 8 (fPg cs PG), fo 13 (fPr cs hq qr QO QF QA) p0.toNatClampNeg, wd_Mpr cs (hq p0.toNatClampNeg) (qr p0.toNatClampNeg) (fun _ => QO p0.toNatClampNeg) (upd (QF p0.toNatClampNeg) 10 z55) (QA p0.toNatClampNeg) (fun _ _ => none)]) rfl rfl (fun H locs hw => ?_)
          refine lv_aload_n S.x S.b d_Mo_ownCall_257 rfl (lv_at hl 4 rfl) ?_
          refine lv_aload_n S.x S.b d_Mo_ownCall_258 rfl (lv_at hl 5 rfl) ?_
          refine px_get S k_Mo hT hw 0 0 9 (v := .int z4) rfl rfl rfl (by decide) m11_87 d_Mo_ownCall_259 ?_
          refine px_callv (pr := [wd_Mo cs mo mr (fun _ => none) (upd mf 9 z4) md (gMo PG hq), fm 8 (fPg cs PG), fo 13 (fPr cs hq qr QO QF QA) p0.toNatClampNeg]) (px_runV (As := [.int z4]) (rest := []) S (c_mq_give l D cs (hq p0.toNatClampNeg) (qr p0.toNatClampNeg) (fun _ _ => none) (fun _ => QO p0.toNatClampNeg) (upd (QF p0.toNatClampNeg) 10 z55) (QA p0.toNatClampNeg) z4  (show 0 ≤ z55.toInt from by first | with_reducible rfl | with_reducible assumption | omega) (show z55.toInt < 62500 from by first | exact oz_2c9f9036ba tz55 nc5 | omega) _) hT (pr := [wd_Mo cs mo mr (fun _ => none) (upd mf 9 z4) md (gMo PG hq), fm 8 (fPg cs PG), fo 13 (fPr cs hq qr QO QF QA) p0.toNatClampNeg]) (pcs := [wd_Mpr cs (hq p0.toNatClampNeg) (qr p0.toNatClampNeg) (fun _ => QO p0.toNatClampNeg) (upd (QF p0.toNatClampNeg) 10 z55) (QA p0.toNatClampNeg) (fun _ _ => none)]) hw px_X.tt (px_recv hT hw 3 0 rfl rfl rfl) m13_161 m14_111 m13_159 m13_160 m1_22 q_Mpr_give ⟨Nat.le_of_ble_eq_true rfl, Nat.le_of_ble_eq_true rfl⟩ hl.1 rfl (Nat.le_of_ble_eq_true rfl) d_Mo_ownCall_262 ⟨Nat.le_of_ble_eq_true rfl, Nat.le_of_ble_eq_true rfl⟩) hw hA (fun p60 H locs hp60 hw => ?_)
          obtain ⟨qf58, qa59, rfl, e62, e63, e64, e65, e66, e67, e68, e69, e70, e71, e72, e73, e74, e75, e76, e77⟩ := hp60
          replace e62 : (qf58 10).toInt = z55.toInt + 1 := e62
          replace e63 : (qf58 1).toInt = ((QF p0.toNatClampNeg) 1).toInt := e63
          replace e64 : (qf58 2).toInt = ((QF p0.toNatClampNeg) 2).toInt := e64
          replace e65 : (qf58 3).toInt = ((QF p0.toNatClampNeg) 3).toInt := e65
          replace e66 : (qf58 4).toInt = ((QF p0.toNatClampNeg) 4).toInt := e66
          replace e67 : (qf58 5).toInt = ((QF p0.toNatClampNeg) 5).toInt := e67
          replace e68 : (qf58 6).toInt = ((QF p0.toNatClampNeg) 6).toInt := e68
          replace e69 : (qf58 7).toInt = ((QF p0.toNatClampNeg) 7).toInt := e69
          replace e70 : (qf58 11).toInt = ((QF p0.toNatClampNeg) 11).toInt := e70
          replace e71 : (qf58 12).toInt = ((QF p0.toNatClampNeg) 12).toInt := e71
          replace e72 : (qf58 13).toInt = ((QF p0.toNatClampNeg) 13).toInt := e72
          replace e73 : (qf58 14).toInt = ((QF p0.toNatClampNeg) 14).toInt := e73
          replace e74 : (qf58 21).toInt = ((QF p0.toNatClampNeg) 21).toInt := e74
          replace e75 : (qf58 23).toInt = ((QF p0.toNatClampNeg) 23).toInt := e75
          replace e76 : (qf58 24).toInt = ((QF p0.toNatClampNeg) 24).toInt := e76
          replace e77 : NuU (QA p0.toNatClampNeg) qa59 9 z55.toInt z4 := e77
          skip
          replace hw : pw D A s.heap H locs [wd_Mo cs mo mr (fun _ => none) (upd mf 9 z4) md (gMo PG hq), fm 8 (fPg cs PG), fo 13 (fPr cs hq qr QO QF QA) p0.toNatClampNeg, wd_Mpr cs (hq p0.toNatClampNeg) (qr p0.toNatClampNeg) (fun _ => QO p0.toNatClampNeg) qf58 qa59 (fun _ _ => none)] := hw
          refine lv_iload S.x S.b d_Mo_ownCall_265 (lv_at hl 1 rfl) ?_
          have hw := fpr_in (pr := [wd_Mo cs mo mr (fun _ => none) (upd mf 9 z4) md (gMo PG hq), fm 8 (fPg cs PG)]) hw hi1
          obtain ⟨QO78, hu_QO78⟩ : ∃ y : Nat → Option Nat, y = va_up QO p0.toNatClampNeg ((fun _ => QO p0.toNatClampNeg) 0) := ⟨_, rfl⟩
          obtain ⟨QF79, hu_QF79⟩ : ∃ y : Nat → Nat → Int32, y = va_up QF p0.toNatClampNeg qf58 := ⟨_, rfl⟩
          obtain ⟨QA80, hu_QA80⟩ : ∃ y : Nat → Nat → Nat → Int32, y = va_up QA p0.toNatClampNeg qa59 := ⟨_, rfl⟩
          have hw : pw D A s.heap _ _ [wd_Mo cs mo mr (fun _ => none) (upd mf 9 z4) md (gMo PG hq), fm 8 (fPg cs PG), fm 13 (fPr cs hq qr QO78 QF79 QA80)] := (by rw [hu_QO78, hu_QF79, hu_QA80]; exact hw)
          have hpx : PrX PG RR QO78 QF79 QA80 p0.toNatClampNeg := (by rw [hu_QO78, hu_QF79, hu_QA80]; exact PrX.up (hpr.px hi1) (show (0 ≤ (qf58 1).toInt ∧ (qf58 1).toInt ≤ 1) ∧ (0 ≤ (qf58 21).toInt ∧ (qf58 21).toInt ≤ 4) ∧ (0 ≤ (qf58 23).toInt ∧ (qf58 23).toInt ≤ 4) ∧ (0 ≤ (qf58 24).toInt ∧ (qf58 24).toInt ≤ 1000000) ∧ (0 ≤ (qf58 6).toInt ∧ (qf58 6).toInt ≤ 3) ∧ (0 ≤ (qf58 7).toInt ∧ (qf58 7).toInt ≤ 1) from by first | with_reducible rfl | with_reducible assumption | omega) (show (qf58 1).toInt = (QF p0.toNatClampNeg 1).toInt from by first | exact oz_1811ac7fe4 e63 | omega) (show (QF p0.toNatClampNeg 6).toInt ≤ (qf58 6).toInt from by first | exact oz_f9b42d1b56 e68 | omega))
          have hpd : PdT (PG j9) (RR p0.toNatClampNeg) (QF79 p0.toNatClampNeg) (QA80 p0.toNatClampNeg) := (by rw [hu_QF79, hu_QA80, va_up_s, va_up_s]; exact PoT.ans hpo (show (qf58 4).toInt = (QF p0.toNatClampNeg 4).toInt ∧ (qf58 5).toInt = (QF p0.toNatClampNeg 5).toInt ∧ (qf58 11).toInt = (QF p0.toNatClampNeg 11).toInt ∧ (qf58 12).toInt = (QF p0.toNatClampNeg 12).toInt ∧ (qf58 13).toInt = (QF p0.toNatClampNeg 13).toInt ∧ (qf58 14).toInt = (QF p0.toNatClampNeg 14).toInt from by first | exact oz_82ab602a70 e66 e67 e70 e71 e72 e73 | omega) (show (qf58 10).toInt = (QF p0.toNatClampNeg 10).toInt - ((oslots p1.toInt).length : Int) + 1 from by first | with_reducible rfl | with_reducible assumption | omega) (show (qf58 24).toInt = (QF p0.toNatClampNeg 24).toInt ∨ (p1.toInt = 1 ∧ (qf58 24).toInt = (QF p0.toNatClampNeg 24).toInt + 1) from by first | with_reducible rfl | with_reducible assumption | omega) (fun i9 q9 => absurd (by rw [hkp.2.2 8 (by decide) (by decide)]) q9) (fun k9 a9 b9 c9 d9 => hkp.2.2 k9 b9 c9) (show NuU _ _ 9 ((QF p0.toNatClampNeg 10).toInt - ((oslots p1.toInt).length : Int)) _ from (by have q8 := e77; rw [show (z55.toInt) = (QF p0.toNatClampNeg 10).toInt - ((oslots p1.toInt).length : Int) by omega] at q8; exact q8)))
          have hko : KpO QO QF QO78 QF79 p0.toNatClampNeg := (by rw [hu_QO78, hu_QF79]; refine ⟨by rw [va_up_s]; first | done | exact hkp.1, ?_⟩; rw [va_up_s]; exact (show (qf58 1).toInt = (QF p0.toNatClampNeg 1).toInt ∧ (qf58 7).toInt = (QF p0.toNatClampNeg 7).toInt ∧ (qf58 11).toInt = (QF p0.toNatClampNeg 11).toInt from by first | exact oz_ca5abb16c6 e63 e69 e70 | omega))
          have hw : pw D A s.heap _ _ [wd_Mo cs mo mr (fun _ => none) (upd mf 9 z4) md (gMo PG hq), fm 13 (fPr cs hq qr QO78 QF79 QA80), fm 8 (fPg cs PG)] := hw.sub [0, 2, 1] rfl rfl
          exact px_iret (v := 1) S hr rfl hlk hAe hw (Nat.le_of_ble_eq_true rfl) (Nat.le_of_ble_eq_true rfl) (⟨(upd mf 9 z4), md, QO78, QF79, QA80, rfl, (show 0 ≤ (1 : Int) from by first | decide | omega), (show (1 : Int) ≤ 1 from by first | decide | omega), (show OwQ (1 : Int) (PrA PG RR QO78 QF79 QA80) (PrX PG RR QO78 QF79 QA80 p0.toNatClampNeg ∧ PdT (PG j9) (RR p0.toNatClampNeg) (QF79 p0.toNatClampNeg) (QA80 p0.toNatClampNeg)) from (Or.inr ⟨by omega, hpx, hpd⟩)), (show KpO QO QF QO78 QF79 p0.toNatClampNeg from hko), (show (mf 0).toInt = (mf 0).toInt from rfl), (show (mf 2).toInt = (mf 2).toInt from rfl), (show (mf 3).toInt = (mf 3).toInt from rfl), (show (mf 7).toInt = (mf 7).toInt from rfl), (show (mf 8).toInt = (mf 8).toInt from rfl), (show (mf 10).toInt = (mf 10).toInt from rfl)⟩) d_Mo_ownCall_267
      · simp only [List.mem_cons, List.not_mem_nil, or_false] at c52
        refine lv_aload_n S.x S.b d_Mo_ownCall_120 rfl (lv_at hl 4 rfl) ?_
        refine lv_iload S.x S.b d_Mo_ownCall_121 (lv_at hl 3 rfl) ?_
        refine px_callv (pr := [wd_Mo cs mo mr (fun _ => none) (upd mf 9 0) md (gMo PG hq), fm 8 (fPg cs PG), fo 13 (fPr cs hq qr QO QF QA) p0.toNatClampNeg]) (px_runV (As := [.int z4]) (rest := []) S (c_mq_write l D cs (hq p0.toNatClampNeg) (qr p0.toNatClampNeg) (fun _ _ => none) (fun _ => QO p0.toNatClampNeg) (QF p0.toNatClampNeg) (QA p0.toNatClampNeg) z4  (show 0 ≤ ((QF p0.toNatClampNeg) 24).toInt from by first | with_reducible rfl | with_reducible assumption | omega) (show ((QF p0.toNatClampNeg) 24).toInt ≤ 1000000 from by first | exact oz_9812ba30bf hpn.2.2.2.2.2.2 hpn.2.2.2.2.1 | omega) _) hT (pr := [wd_Mo cs mo mr (fun _ => none) (upd mf 9 0) md (gMo PG hq), fm 8 (fPg cs PG), fo 13 (fPr cs hq qr QO QF QA) p0.toNatClampNeg]) (pcs := [wd_Mpr cs (hq p0.toNatClampNeg) (qr p0.toNatClampNeg) (fun _ => QO p0.toNatClampNeg) (QF p0.toNatClampNeg) (QA p0.toNatClampNeg) (fun _ _ => none)]) hw px_X.tt (px_recv hT hw 3 0 rfl rfl rfl) m14_39 m14_36 m14_37 m14_38 m1_22 q_Mpr_write ⟨Nat.le_of_ble_eq_true rfl, Nat.le_of_ble_eq_true rfl⟩ hl.1 rfl (Nat.le_of_ble_eq_true rfl) d_Mo_ownCall_123 ⟨Nat.le_of_ble_eq_true rfl, Nat.le_of_ble_eq_true rfl⟩) hw hA (fun p85 H locs hp85 hw => ?_)
        obtain ⟨qf83, qa84, rfl, e87, e88, e89, e90, e91, e92, e93, e94, e95, e96, e97, e98, e99, e100, e101, e102⟩ := hp85
        replace e87 : (qf83 24).toInt = ((QF p0.toNatClampNeg) 24).toInt + 1 := e87
        replace e88 : (qf83 1).toInt = ((QF p0.toNatClampNeg) 1).toInt := e88
        replace e89 : (qf83 2).toInt = ((QF p0.toNatClampNeg) 2).toInt := e89
        replace e90 : (qf83 3).toInt = ((QF p0.toNatClampNeg) 3).toInt := e90
        replace e91 : (qf83 4).toInt = ((QF p0.toNatClampNeg) 4).toInt := e91
        replace e92 : (qf83 5).toInt = ((QF p0.toNatClampNeg) 5).toInt := e92
        replace e93 : (qf83 6).toInt = ((QF p0.toNatClampNeg) 6).toInt := e93
        replace e94 : (qf83 7).toInt = ((QF p0.toNatClampNeg) 7).toInt := e94
        replace e95 : (qf83 10).toInt = ((QF p0.toNatClampNeg) 10).toInt := e95
        replace e96 : (qf83 11).toInt = ((QF p0.toNatClampNeg) 11).toInt := e96
        replace e97 : (qf83 12).toInt = ((QF p0.toNatClampNeg) 12).toInt := e97
        replace e98 : (qf83 13).toInt = ((QF p0.toNatClampNeg) 13).toInt := e98
        replace e99 : (qf83 14).toInt = ((QF p0.toNatClampNeg) 14).toInt := e99
        replace e100 : (qf83 21).toInt = ((QF p0.toNatClampNeg) 21).toInt := e100
        replace e101 : (qf83 23).toInt = ((QF p0.toNatClampNeg) 23).toInt := e101
        replace e102 : ∀ k9 : Nat, k9 ≠ 25 → qa84 k9 = (QA p0.toNatClampNeg) k9 := e102
        have haw := e102
        replace hw : pw D A s.heap H locs [wd_Mo cs mo mr (fun _ => none) (upd mf 9 0) md (gMo PG hq), fm 8 (fPg cs PG), fo 13 (fPr cs hq qr QO QF QA) p0.toNatClampNeg, wd_Mpr cs (hq p0.toNatClampNeg) (qr p0.toNatClampNeg) (fun _ => QO p0.toNatClampNeg) qf83 qa84 (fun _ _ => none)] := hw
        refine lv_goto (tgt := 241) S.x S.b d_Mo_ownCall_126 (by decide) ?_
        refine lv_iload S.x S.b d_Mo_ownCall_241 (lv_at hl 1 rfl) ?_
        refine lv_if_eq (tgt := 265) S.x S.b d_Mo_ownCall_243 (by decide) (fun c103 => ?_) (fun c103 => ?_)
        · exact absurd c103 (by decide)
        ·
          refine lv_aload_n S.x S.b d_Mo_ownCall_246 rfl (lv_at hl 4 rfl) ?_
          have hkf := hkp.2.1; unfold KpF at hkf
          refine lv_aload_n S.x S.b d_Mo_ownCall_247 rfl (lv_at hl 4 rfl) ?_
          refine px_get S k_Mpr hT hw 3 0 10 (v := .int (qf83 10)) rfl rfl rfl (by decide) m11_1 d_Mo_ownCall_248 ?_
          refine lv_iload S.x S.b d_Mo_ownCall_251 (lv_at hl 0 rfl) ?_
          refine lv_isub S.x S.b d_Mo_ownCall_253 ?_
          have lr104 := Int32.le_toInt (qf83 10)
          have ur104 := Int32.toInt_lt (qf83 10)
          refine lv_topi (fun z105 ez105 => ?_)
          have tz105 : z105.toInt = ((qf83 10).toInt - (1 : Int) + 2147483648) % 4294967296 - 2147483648 := by rw [ez105]; exact i_sub (qf83 10) 1
          have lz105 := Int32.le_toInt z105
          have uz105 := Int32.toInt_lt z105
          try replace tz105 : z105.toInt = (qf83 10).toInt - (1 : Int) := by omega
          refine px_put S k_Mpr hT hw 3 0 10 rfl rfl (by decide) m11_1 rfl rfl rfl (Nat.le_of_ble_eq_true rfl) d_Mo_ownCall_254 (w' := wd_Mpr cs (hq p0.toNatClampNeg) (qr p0.toNatClampNeg) (fun _ => QO p0.toNatClampNeg) (upd qf83 10 z105) qa84 (fun _ _ => none)) (ps' := [wd_Mo cs mo mr (fun _ => none) (upd mf 9 0) md (gMo PG hq), fm 8 (fPg cs PG), fo 13 (fPr cs hq qr QO QF QA) p0.toNatClampNeg, wd_Mpr cs (hq p0.toNatClampNeg) (qr p0.toNatClampNeg) (fun _ => QO p0.toNatClampNeg) (upd qf83 10 z105) qa84 (fun _ _ => none)]) rfl rfl (fun H locs hw => ?_)
          refine lv_aload_n S.x S.b d_Mo_ownCall_257 rfl (lv_at hl 4 rfl) ?_
          refine lv_aload_n S.x S.b d_Mo_ownCall_258 rfl (lv_at hl 5 rfl) ?_
          refine px_get S k_Mo hT hw 0 0 9 (v := .int 0) rfl rfl rfl (by decide) m11_87 d_Mo_ownCall_259 ?_
          refine px_callv (pr := [wd_Mo cs mo mr (fun _ => none) (upd mf 9 0) md (gMo PG hq), fm 8 (fPg cs PG), fo 13 (fPr cs hq qr QO QF QA) p0.toNatClampNeg]) (px_runV (As := [.int 0]) (rest := []) S (c_mq_give l D cs (hq p0.toNatClampNeg) (qr p0.toNatClampNeg) (fun _ _ => none) (fun _ => QO p0.toNatClampNeg) (upd qf83 10 z105) qa84 0  (show 0 ≤ z105.toInt from by first | with_reducible rfl | with_reducible assumption | omega) (show z105.toInt < 62500 from by first | exact oz_2e4f4c116e tz105 e95 nc5 | omega) _) hT (pr := [wd_Mo cs mo mr (fun _ => none) (upd mf 9 0) md (gMo PG hq), fm 8 (fPg cs PG), fo 13 (fPr cs hq qr QO QF QA) p0.toNatClampNeg]) (pcs := [wd_Mpr cs (hq p0.toNatClampNeg) (qr p0.toNatClampNeg) (fun _ => QO p0.toNatClampNeg) (upd qf83 10 z105) qa84 (fun _ _ => none)]) hw px_X.tt (px_recv hT hw 3 0 rfl rfl rfl) m13_161 m14_111 m13_159 m13_160 m1_22 q_Mpr_give ⟨Nat.le_of_ble_eq_true rfl, Nat.le_of_ble_eq_true rfl⟩ hl.1 rfl (Nat.le_of_ble_eq_true rfl) d_Mo_ownCall_262 ⟨Nat.le_of_ble_eq_true rfl, Nat.le_of_ble_eq_true rfl⟩) hw hA (fun p110 H locs hp110 hw => ?_)
          obtain ⟨qf108, qa109, rfl, e112, e113, e114, e115, e116, e117, e118, e119, e120, e121, e122, e123, e124, e125, e126, e127⟩ := hp110
          replace e112 : (qf108 10).toInt = z105.toInt + 1 := e112
          replace e113 : (qf108 1).toInt = (qf83 1).toInt := e113
          replace e114 : (qf108 2).toInt = (qf83 2).toInt := e114
          replace e115 : (qf108 3).toInt = (qf83 3).toInt := e115
          replace e116 : (qf108 4).toInt = (qf83 4).toInt := e116
          replace e117 : (qf108 5).toInt = (qf83 5).toInt := e117
          replace e118 : (qf108 6).toInt = (qf83 6).toInt := e118
          replace e119 : (qf108 7).toInt = (qf83 7).toInt := e119
          replace e120 : (qf108 11).toInt = (qf83 11).toInt := e120
          replace e121 : (qf108 12).toInt = (qf83 12).toInt := e121
          replace e122 : (qf108 13).toInt = (qf83 13).toInt := e122
          replace e123 : (qf108 14).toInt = (qf83 14).toInt := e123
          replace e124 : (qf108 21).toInt = (qf83 21).toInt := e124
          replace e125 : (qf108 23).toInt = (qf83 23).toInt := e125
          replace e126 : (qf108 24).toInt = (qf83 24).toInt := e126
          replace e127 : NuU qa84 qa109 9 z105.toInt (0 : Int32) := e127
          skip
          replace hw : pw D A s.heap H locs [wd_Mo cs mo mr (fun _ => none) (upd mf 9 0) md (gMo PG hq), fm 8 (fPg cs PG), fo 13 (fPr cs hq qr QO QF QA) p0.toNatClampNeg, wd_Mpr cs (hq p0.toNatClampNeg) (qr p0.toNatClampNeg) (fun _ => QO p0.toNatClampNeg) qf108 qa109 (fun _ _ => none)] := hw
          refine lv_iload S.x S.b d_Mo_ownCall_265 (lv_at hl 1 rfl) ?_
          have hw := fpr_in (pr := [wd_Mo cs mo mr (fun _ => none) (upd mf 9 0) md (gMo PG hq), fm 8 (fPg cs PG)]) hw hi1
          obtain ⟨QO128, hu_QO128⟩ : ∃ y : Nat → Option Nat, y = va_up QO p0.toNatClampNeg ((fun _ => QO p0.toNatClampNeg) 0) := ⟨_, rfl⟩
          obtain ⟨QF129, hu_QF129⟩ : ∃ y : Nat → Nat → Int32, y = va_up QF p0.toNatClampNeg qf108 := ⟨_, rfl⟩
          obtain ⟨QA130, hu_QA130⟩ : ∃ y : Nat → Nat → Nat → Int32, y = va_up QA p0.toNatClampNeg qa109 := ⟨_, rfl⟩
          have hw : pw D A s.heap _ _ [wd_Mo cs mo mr (fun _ => none) (upd mf 9 0) md (gMo PG hq), fm 8 (fPg cs PG), fm 13 (fPr cs hq qr QO128 QF129 QA130)] := (by rw [hu_QO128, hu_QF129, hu_QA130]; exact hw)
          have hpx : PrX PG RR QO128 QF129 QA130 p0.toNatClampNeg := (by rw [hu_QO128, hu_QF129, hu_QA130]; exact PrX.up (hpr.px hi1) (show (0 ≤ (qf108 1).toInt ∧ (qf108 1).toInt ≤ 1) ∧ (0 ≤ (qf108 21).toInt ∧ (qf108 21).toInt ≤ 4) ∧ (0 ≤ (qf108 23).toInt ∧ (qf108 23).toInt ≤ 4) ∧ (0 ≤ (qf108 24).toInt ∧ (qf108 24).toInt ≤ 1000000) ∧ (0 ≤ (qf108 6).toInt ∧ (qf108 6).toInt ≤ 3) ∧ (0 ≤ (qf108 7).toInt ∧ (qf108 7).toInt ≤ 1) from by first | with_reducible rfl | with_reducible assumption | omega) (show (qf108 1).toInt = (QF p0.toNatClampNeg 1).toInt from by first | exact oz_1687f4cc65 e88 e113 | omega) (show (QF p0.toNatClampNeg 6).toInt ≤ (qf108 6).toInt from by first | exact oz_d01699e821 e93 e118 | omega))
          have hpd : PdT (PG j9) (RR p0.toNatClampNeg) (QF129 p0.toNatClampNeg) (QA130 p0.toNatClampNeg) := (by rw [hu_QF129, hu_QA130, va_up_s, va_up_s]; exact PoT.ans hpo (show (qf108 4).toInt = (QF p0.toNatClampNeg 4).toInt ∧ (qf108 5).toInt = (QF p0.toNatClampNeg 5).toInt ∧ (qf108 11).toInt = (QF p0.toNatClampNeg 11).toInt ∧ (qf108 12).toInt = (QF p0.toNatClampNeg 12).toInt ∧ (qf108 13).toInt = (QF p0.toNatClampNeg 13).toInt ∧ (qf108 14).toInt = (QF p0.toNatClampNeg 14).toInt from by first | exact oz_e3309c85a3 e91 e116 e92 e117 e96 e120 e97 e121 e98 e122 e99 e123 | omega) (show (qf108 10).toInt = (QF p0.toNatClampNeg 10).toInt - ((oslots p1.toInt).length : Int) + 1 from by first | with_reducible rfl | with_reducible assumption | omega) (show (qf108 24).toInt = (QF p0.toNatClampNeg 24).toInt ∨ (p1.toInt = 1 ∧ (qf108 24).toInt = (QF p0.toNatClampNeg 24).toInt + 1) from by first | with_reducible rfl | with_reducible assumption | omega) (fun i9 q9 => absurd (congrFun (haw 8 (by decide)) i9) q9) (fun k9 a9 b9 c9 d9 => haw k9 d9) (show NuU _ _ 9 ((QF p0.toNatClampNeg 10).toInt - ((oslots p1.toInt).length : Int)) _ from (by have q8 := e127; rw [show (z105.toInt) = (QF p0.toNatClampNeg 10).toInt - ((oslots p1.toInt).length : Int) by omega] at q8; exact q8)))
          have hko : KpO QO QF QO128 QF129 p0.toNatClampNeg := (by rw [hu_QO128, hu_QF129]; refine ⟨by rw [va_up_s]; first | done | exact hkp.1, ?_⟩; rw [va_up_s]; exact (show (qf108 1).toInt = (QF p0.toNatClampNeg 1).toInt ∧ (qf108 7).toInt = (QF p0.toNatClampNeg 7).toInt ∧ (qf108 11).toInt = (QF p0.toNatClampNeg 11).toInt from by first | exact oz_c24f474a2b e88 e113 e94 e119 e96 e120 | omega))
          have hw : pw D A s.heap _ _ [wd_Mo cs mo mr (fun _ => none) (upd mf 9 0) md (gMo PG hq), fm 13 (fPr cs hq qr QO128 QF129 QA130), fm 8 (fPg cs PG)] := hw.sub [0, 2, 1] rfl rfl
          exact px_iret (v := 1) S hr rfl hlk hAe hw (Nat.le_of_ble_eq_true rfl) (Nat.le_of_ble_eq_true rfl) (⟨(upd mf 9 0), md, QO128, QF129, QA130, rfl, (show 0 ≤ (1 : Int) from by first | decide | omega), (show (1 : Int) ≤ 1 from by first | decide | omega), (show OwQ (1 : Int) (PrA PG RR QO128 QF129 QA130) (PrX PG RR QO128 QF129 QA130 p0.toNatClampNeg ∧ PdT (PG j9) (RR p0.toNatClampNeg) (QF129 p0.toNatClampNeg) (QA130 p0.toNatClampNeg)) from (Or.inr ⟨by omega, hpx, hpd⟩)), (show KpO QO QF QO128 QF129 p0.toNatClampNeg from hko), (show (mf 0).toInt = (mf 0).toInt from rfl), (show (mf 2).toInt = (mf 2).toInt from rfl), (show (mf 3).toInt = (mf 3).toInt from rfl), (show (mf 7).toInt = (mf 7).toInt from rfl), (show (mf 8).toInt = (mf 8).toInt from rfl), (show (mf 10).toInt = (mf 10).toInt from rfl)⟩) d_Mo_ownCall_267
      · simp only [List.mem_cons, List.not_mem_nil, or_false] at c52
        refine lv_aload_n S.x S.b d_Mo_ownCall_129 rfl (lv_at hl 5 rfl) ?_
        refine lv_iload_n S.x S.b d_Mo_ownCall_130 rfl (lv_at hl 6 rfl) ?_
        refine lv_iload S.x S.b d_Mo_ownCall_131 (lv_at hl 2 rfl) ?_
        refine lv_iload S.x S.b d_Mo_ownCall_133 (lv_at hl 3 rfl) ?_
        have hw : pw D A s.heap _ _ [wd_Mo cs mo mr (fun _ => none) (upd mf 9 0) md (gMo PG hq), fm 8 (fPg cs PG), fm 13 (fPr cs hq qr QO QF QA)] := fm_back (pr := [wd_Mo cs mo mr (fun _ => none) (upd mf 9 0) md (gMo PG hq), fm 8 (fPg cs PG)]) (T := fPr cs hq qr QO QF QA) hw hi1
        have hw : pw D A s.heap _ _ [wd_Mo cs mo mr (fun _ => none) (upd mf 9 0) md (gMo PG hq), fm 13 (fPr cs hq qr QO QF QA), fm 8 (fPg cs PG)] := hw.sub [0, 2, 1] rfl rfl
        refine px_calli (pr := []) (px_runV (As := [.int p0, .int 0, .int z4]) (rest := []) S (c_mo_sends l D cs RR mo mr (upd mf 9 0) md hq qr QO QF QA PG p0 0 z4  (show 0 ≤ p0.toInt from by first | exact g0 | omega) (show p0.toInt < 13 from by first | exact g1 | omega) hpr hpg _) hT (pr := []) (pcs := [wd_Mo cs mo mr (fun _ => none) (upd mf 9 0) md (gMo PG hq), fm 13 (fPr cs hq qr QO QF QA), fm 8 (fPg cs PG)]) hw px_X.tt (px_recv hT hw 0 0 rfl rfl rfl) m14_43 m14_40 m14_42 ms_15_13 m1_20 q_Mo_sends ⟨Nat.le_of_ble_eq_true rfl, Nat.le_of_ble_eq_true rfl⟩ hl.1 rfl (Nat.le_of_ble_eq_true rfl) d_Mo_ownCall_135 ⟨Nat.le_of_ble_eq_true rfl, Nat.le_of_ble_eq_true rfl⟩) hw hA (fun v138 p137 H locs hp137 hw => ?_)
        obtain ⟨QO134, QF135, QA136, rfl, e139, e140, e141, e142⟩ := hp137
        replace e139 : PrA PG RR QO134 QF135 QA136 := e139
        have hpr := e139
        replace e140 : KpP QO QF QA QO134 QF135 QA136 p0.toNatClampNeg := e140
        have hkp := hkp.tr e140
        replace e141 : 0 ≤ v138.toInt := e141
        replace e142 : v138.toInt ≤ 1 := e142
        replace hw : pw D A s.heap H locs [wd_Mo cs mo mr (fun _ => none) (upd mf 9 0) md (gMo PG hq), fm 13 (fPr cs hq qr QO134 QF135 QA136), fm 8 (fPg cs PG)] := hw
        have lv138 := Int32.le_toInt v138
        have uv138 := Int32.toInt_lt v138
        refine lv_istore (lv' := [(6, .int v138), (7, .int 1), (5, .int 0), (4, .int z4), (3, .ref (hq p0.toNatClampNeg)), (0, .ref mo), (1, .int p0), (2, .int p1)]) S.x S.b d_Mo_ownCall_138 hl (by decide) rfl (fun ls hl => ?_)
        refine lv_iconst (v := 2) S.x S.b d_Mo_ownCall_140 (by decide) ?_
        refine lv_istore (lv' := [(7, .int 2), (6, .int v138), (5, .int 0), (4, .int z4), (3, .ref (hq p0.toNatClampNeg)), (0, .ref mo), (1, .int p0), (2, .int p1)]) S.x S.b d_Mo_ownCall_141 hl (by decide) rfl (fun ls hl => ?_)
        refine lv_goto (tgt := 241) S.x S.b d_Mo_ownCall_143 (by decide) ?_
        refine lv_iload S.x S.b d_Mo_ownCall_241 (lv_at hl 1 rfl) ?_
        refine lv_if_eq (tgt := 265) S.x S.b d_Mo_ownCall_243 (by decide) (fun c143 => ?_) (fun c143 => ?_)
        · have nc143 : v138.toInt = (0 : Int) := (i_eq (x := v138) (y := 0)).mp c143
          refine lv_iload S.x S.b d_Mo_ownCall_265 (lv_at hl 1 rfl) ?_
          exact px_iret (v := v138) S hr (z_nar (by omega)) hlk hAe hw (Nat.le_of_ble_eq_true rfl) (Nat.le_of_ble_eq_true rfl) (⟨(upd mf 9 0), md, QO134, QF135, QA136, rfl, (show 0 ≤ v138.toInt from by first | exact e141 | omega), (show v138.toInt ≤ 1 from by first | exact e142 | omega), (show OwQ v138.toInt (PrA PG RR QO134 QF135 QA136) (PrX PG RR QO134 QF135 QA136 p0.toNatClampNeg ∧ PdT (PG j9) (RR p0.toNatClampNeg) (QF135 p0.toNatClampNeg) (QA136 p0.toNatClampNeg)) from (Or.inl ⟨by omega, hpr⟩)), (show KpO QO QF QO134 QF135 p0.toNatClampNeg from hkp.o), (show (mf 0).toInt = (mf 0).toInt from rfl), (show (mf 2).toInt = (mf 2).toInt from rfl), (show (mf 3).toInt = (mf 3).toInt from rfl), (show (mf 7).toInt = (mf 7).toInt from rfl), (show (mf 8).toInt = (mf 8).toInt from rfl), (show (mf 10).toInt = (mf 10).toInt from rfl)⟩) d_Mo_ownCall_267
        · have nc143 : ¬ v138.toInt = (0 : Int) := mt (i_eq (x := v138) (y := 0)).mpr c143
          refine lv_aload_n S.x S.b d_Mo_ownCall_246 rfl (lv_at hl 4 rfl) ?_
          have hkf := hkp.2.1; unfold KpF at hkf
          refine lv_aload_n S.x S.b d_Mo_ownCall_247 rfl (lv_at hl 4 rfl) ?_
          have hw : pw D A s.heap _ _ [wd_Mo cs mo mr (fun _ => none) (upd mf 9 0) md (gMo PG hq), fm 8 (fPg cs PG), fm 13 (fPr cs hq qr QO134 QF135 QA136)] := hw.sub [0, 2, 1] rfl rfl
          have hc144 := cl_nat (x := p0) (by first | exact g0 | omega)
          have hi144 : p0.toNatClampNeg < 13 := by first | exact hi1 | omega
          have hw : pw D A s.heap _ _ [wd_Mo cs mo mr (fun _ => none) (upd mf 9 0) md (gMo PG hq), fm 8 (fPg cs PG), fo 13 (fPr cs hq qr QO134 QF135 QA136) p0.toNatClampNeg, wd_Mpr cs (hq p0.toNatClampNeg) (qr p0.toNatClampNeg) (fun _ => QO134 p0.toNatClampNeg) (QF135 p0.toNatClampNeg) (QA136 p0.toNatClampNeg) (fun _ _ => none)] := fm_out (pr := [wd_Mo cs mo mr (fun _ => none) (upd mf 9 0) md (gMo PG hq), fm 8 (fPg cs PG)]) (T := fPr cs hq qr QO134 QF135 QA136) hw hi144
          have hps144 := hpr.1 p0.toNatClampNeg hi144
          have hpb144 := hps144.1
          unfold PsB at hpb144
          refine px_get S k_Mpr hT hw 3 0 10 (v := .int ((QF135 p0.toNatClampNeg) 10)) rfl rfl rfl (by decide) m11_1 d_Mo_ownCall_248 ?_
          refine lv_iload S.x S.b d_Mo_ownCall_251 (lv_at hl 0 rfl) ?_
          refine lv_isub S.x S.b d_Mo_ownCall_253 ?_
          have lr145 := Int32.le_toInt ((QF135 p0.toNatClampNeg) 10)
          have ur145 := Int32.toInt_lt ((QF135 p0.toNatClampNeg) 10)
          refine lv_topi (fun z146 ez146 => ?_)
          have tz146 : z146.toInt = (((QF135 p0.toNatClampNeg) 10).toInt - (2 : Int) + 2147483648) % 4294967296 - 2147483648 := by rw [ez146]; exact i_sub ((QF135 p0.toNatClampNeg) 10) 2
          have lz146 := Int32.le_toInt z146
          have uz146 := Int32.toInt_lt z146
          try replace tz146 : z146.toInt = ((QF135 p0.toNatClampNeg) 10).toInt - (2 : Int) := by omega
          refine px_put S k_Mpr hT hw 3 0 10 rfl rfl (by decide) m11_1 rfl rfl rfl (Nat.le_of_ble_eq_true rfl) d_Mo_ownCall_254 (w' := wd_Mpr cs (hq p0.toNatClampNeg) (qr p0.toNatClampNeg) (fun _ => QO134 p0.toNatClampNeg) (upd (QF135 p0.toNatClampNeg) 10 z146) (QA136 p0.toNatClampNeg) (fun _ _ => none)) (ps' := [wd_Mo cs mo mr (fun _ => none) (upd mf 9 0) md (gMo PG hq), fm 8 (fPg cs PG), fo 13 (fPr cs hq qr QO134 QF135 QA136) p0.toNatClampNeg, wd_Mpr cs (hq p0.toNatClampNeg) (qr p0.toNatClampNeg) (fun _ => QO134 p0.toNatClampNeg) (upd (QF135 p0.toNatClampNeg) 10 z146) (QA136 p0.toNatClampNeg) (fun _ _ => none)]) rfl rfl (fun H locs hw => ?_)
          refine lv_aload_n S.x S.b d_Mo_ownCall_257 rfl (lv_at hl 4 rfl) ?_
          refine lv_aload_n S.x S.b d_Mo_ownCall_258 rfl (lv_at hl 5 rfl) ?_
          refine px_get S k_Mo hT hw 0 0 9 (v := .int 0) rfl rfl rfl (by decide) m11_87 d_Mo_ownCall_259 ?_
          refine px_callv (pr := [wd_Mo cs mo mr (fun _ => none) (upd mf 9 0) md (gMo PG hq), fm 8 (fPg cs PG), fo 13 (fPr cs hq qr QO134 QF135 QA136) p0.toNatClampNeg]) (px_runV (As := [.int 0]) (rest := []) S (c_mq_give l D cs (hq p0.toNatClampNeg) (qr p0.toNatClampNeg) (fun _ _ => none) (fun _ => QO134 p0.toNatClampNeg) (upd (QF135 p0.toNatClampNeg) 10 z146) (QA136 p0.toNatClampNeg) 0  (show 0 ≤ z146.toInt from by first | with_reducible rfl | with_reducible assumption | omega) (show z146.toInt < 62500 from by first | with_reducible rfl | with_reducible assumption | omega) _) hT (pr := [wd_Mo cs mo mr (fun _ => none) (upd mf 9 0) md (gMo PG hq), fm 8 (fPg cs PG), fo 13 (fPr cs hq qr QO134 QF135 QA136) p0.toNatClampNeg]) (pcs := [wd_Mpr cs (hq p0.toNatClampNeg) (qr p0.toNatClampNeg) (fun _ => QO134 p0.toNatClampNeg) (upd (QF135 p0.toNatClampNeg) 10 z146) (QA136 p0.toNatClampNeg) (fun _ _ => none)]) hw px_X.tt (px_recv hT hw 3 0 rfl rfl rfl) m13_161 m14_111 m13_159 m13_160 m1_22 q_Mpr_give ⟨Nat.le_of_ble_eq_true rfl, Nat.le_of_ble_eq_true rfl⟩ hl.1 rfl (Nat.le_of_ble_eq_true rfl) d_Mo_ownCall_262 ⟨Nat.le_of_ble_eq_true rfl, Nat.le_of_ble_eq_true rfl⟩) hw hA (fun p151 H locs hp151 hw => ?_)
          obtain ⟨qf149, qa150, rfl, e153, e154, e155, e156, e157, e158, e159, e160, e161, e162, e163, e164, e165, e166, e167, e168⟩ := hp151
          replace e153 : (qf149 10).toInt = z146.toInt + 1 := e153
          replace e154 : (qf149 1).toInt = ((QF135 p0.toNatClampNeg) 1).toInt := e154
          replace e155 : (qf149 2).toInt = ((QF135 p0.toNatClampNeg) 2).toInt := e155
          replace e156 : (qf149 3).toInt = ((QF135 p0.toNatClampNeg) 3).toInt := e156
          replace e157 : (qf149 4).toInt = ((QF135 p0.toNatClampNeg) 4).toInt := e157
          replace e158 : (qf149 5).toInt = ((QF135 p0.toNatClampNeg) 5).toInt := e158
          replace e159 : (qf149 6).toInt = ((QF135 p0.toNatClampNeg) 6).toInt := e159
          replace e160 : (qf149 7).toInt = ((QF135 p0.toNatClampNeg) 7).toInt := e160
          replace e161 : (qf149 11).toInt = ((QF135 p0.toNatClampNeg) 11).toInt := e161
          replace e162 : (qf149 12).toInt = ((QF135 p0.toNatClampNeg) 12).toInt := e162
          replace e163 : (qf149 13).toInt = ((QF135 p0.toNatClampNeg) 13).toInt := e163
          replace e164 : (qf149 14).toInt = ((QF135 p0.toNatClampNeg) 14).toInt := e164
          replace e165 : (qf149 21).toInt = ((QF135 p0.toNatClampNeg) 21).toInt := e165
          replace e166 : (qf149 23).toInt = ((QF135 p0.toNatClampNeg) 23).toInt := e166
          replace e167 : (qf149 24).toInt = ((QF135 p0.toNatClampNeg) 24).toInt := e167
          replace e168 : NuU (QA136 p0.toNatClampNeg) qa150 9 z146.toInt (0 : Int32) := e168
          skip
          replace hw : pw D A s.heap H locs [wd_Mo cs mo mr (fun _ => none) (upd mf 9 0) md (gMo PG hq), fm 8 (fPg cs PG), fo 13 (fPr cs hq qr QO134 QF135 QA136) p0.toNatClampNeg, wd_Mpr cs (hq p0.toNatClampNeg) (qr p0.toNatClampNeg) (fun _ => QO134 p0.toNatClampNeg) qf149 qa150 (fun _ _ => none)] := hw
          refine lv_iload S.x S.b d_Mo_ownCall_265 (lv_at hl 1 rfl) ?_
          have hw := fpr_in (pr := [wd_Mo cs mo mr (fun _ => none) (upd mf 9 0) md (gMo PG hq), fm 8 (fPg cs PG)]) hw hi144
          obtain ⟨QO169, hu_QO169⟩ : ∃ y : Nat → Option Nat, y = va_up QO134 p0.toNatClampNeg ((fun _ => QO134 p0.toNatClampNeg) 0) := ⟨_, rfl⟩
          obtain ⟨QF170, hu_QF170⟩ : ∃ y : Nat → Nat → Int32, y = va_up QF135 p0.toNatClampNeg qf149 := ⟨_, rfl⟩
          obtain ⟨QA171, hu_QA171⟩ : ∃ y : Nat → Nat → Nat → Int32, y = va_up QA136 p0.toNatClampNeg qa150 := ⟨_, rfl⟩
          have hw : pw D A s.heap _ _ [wd_Mo cs mo mr (fun _ => none) (upd mf 9 0) md (gMo PG hq), fm 8 (fPg cs PG), fm 13 (fPr cs hq qr QO169 QF170 QA171)] := (by rw [hu_QO169, hu_QF170, hu_QA171]; exact hw)
          have hpx : PrX PG RR QO169 QF170 QA171 p0.toNatClampNeg := (by rw [hu_QO169, hu_QF170, hu_QA171]; exact PrX.up (hpr.px hi144) (show (0 ≤ (qf149 1).toInt ∧ (qf149 1).toInt ≤ 1) ∧ (0 ≤ (qf149 21).toInt ∧ (qf149 21).toInt ≤ 4) ∧ (0 ≤ (qf149 23).toInt ∧ (qf149 23).toInt ≤ 4) ∧ (0 ≤ (qf149 24).toInt ∧ (qf149 24).toInt ≤ 1000000) ∧ (0 ≤ (qf149 6).toInt ∧ (qf149 6).toInt ≤ 3) ∧ (0 ≤ (qf149 7).toInt ∧ (qf149 7).toInt ≤ 1) from by first | with_reducible rfl | with_reducible assumption | omega) (show (qf149 1).toInt = (QF135 p0.toNatClampNeg 1).toInt from by first | exact oz_1811ac7fe4 e154 | omega) (show (QF135 p0.toNatClampNeg 6).toInt ≤ (qf149 6).toInt from by first | exact oz_f9b42d1b56 e159 | omega))
          have hpd : PdT (PG j9) (RR p0.toNatClampNeg) (QF170 p0.toNatClampNeg) (QA171 p0.toNatClampNeg) := (by rw [hu_QF170, hu_QA171, va_up_s, va_up_s]; exact PoT.ans hpo (show (qf149 4).toInt = (QF p0.toNatClampNeg 4).toInt ∧ (qf149 5).toInt = (QF p0.toNatClampNeg 5).toInt ∧ (qf149 11).toInt = (QF p0.toNatClampNeg 11).toInt ∧ (qf149 12).toInt = (QF p0.toNatClampNeg 12).toInt ∧ (qf149 13).toInt = (QF p0.toNatClampNeg 13).toInt ∧ (qf149 14).toInt = (QF p0.toNatClampNeg 14).toInt from by first | with_reducible rfl | with_reducible assumption | omega) (show (qf149 10).toInt = (QF p0.toNatClampNeg 10).toInt - ((oslots p1.toInt).length : Int) + 1 from by first | with_reducible rfl | with_reducible assumption | omega) (show (qf149 24).toInt = (QF p0.toNatClampNeg 24).toInt ∨ (p1.toInt = 1 ∧ (qf149 24).toInt = (QF p0.toNatClampNeg 24).toInt + 1) from by first | with_reducible rfl | with_reducible assumption | omega) (fun i9 q9 => absurd (by rw [hkp.2.2 8 (by decide) (by decide)]) q9) (fun k9 a9 b9 c9 d9 => hkp.2.2 k9 b9 c9) (show NuU _ _ 9 ((QF p0.toNatClampNeg 10).toInt - ((oslots p1.toInt).length : Int)) _ from (by have q8 := e168; rw [show (z146.toInt) = (QF p0.toNatClampNeg 10).toInt - ((oslots p1.toInt).length : Int) by omega] at q8; exact q8)))
          have hko : KpO QO QF QO169 QF170 p0.toNatClampNeg := (by rw [hu_QO169, hu_QF170]; refine ⟨by rw [va_up_s]; first | done | exact hkp.1, ?_⟩; rw [va_up_s]; exact (show (qf149 1).toInt = (QF p0.toNatClampNeg 1).toInt ∧ (qf149 7).toInt = (QF p0.toNatClampNeg 7).toInt ∧ (qf149 11).toInt = (QF p0.toNatClampNeg 11).toInt from by first | with_reducible rfl | with_reducible assumption | omega))
          have hw : pw D A s.heap _ _ [wd_Mo cs mo mr (fun _ => none) (upd mf 9 0) md (gMo PG hq), fm 13 (fPr cs hq qr QO169 QF170 QA171), fm 8 (fPg cs PG)] := hw.sub [0, 2, 1] rfl rfl
          exact px_iret (v := v138) S hr (z_nar (by omega)) hlk hAe hw (Nat.le_of_ble_eq_true rfl) (Nat.le_of_ble_eq_true rfl) (⟨(upd mf 9 0), md, QO169, QF170, QA171, rfl, (show 0 ≤ v138.toInt from by first | exact e141 | omega), (show v138.toInt ≤ 1 from by first | exact e142 | omega), (show OwQ v138.toInt (PrA PG RR QO169 QF170 QA171) (PrX PG RR QO169 QF170 QA171 p0.toNatClampNeg ∧ PdT (PG j9) (RR p0.toNatClampNeg) (QF170 p0.toNatClampNeg) (QA171 p0.toNatClampNeg)) from (Or.inr ⟨by omega, hpx, hpd⟩)), (show KpO QO QF QO169 QF170 p0.toNatClampNeg from hko), (show (mf 0).toInt = (mf 0).toInt from rfl), (show (mf 2).toInt = (mf 2).toInt from rfl), (show (mf 3).toInt = (mf 3).toInt from rfl), (show (mf 7).toInt = (mf 7).toInt from rfl), (show (mf 8).toInt = (mf 8).toInt from rfl), (show (mf 10).toInt = (mf 10).toInt from rfl)⟩) d_Mo_ownCall_267
      · simp only [List.mem_cons, List.not_mem_nil, or_false] at c52
        refine lv_aload_n S.x S.b d_Mo_ownCall_146 rfl (lv_at hl 5 rfl) ?_
        refine lv_iload_n S.x S.b d_Mo_ownCall_147 rfl (lv_at hl 6 rfl) ?_
        refine lv_iload S.x S.b d_Mo_ownCall_148 (lv_at hl 3 rfl) ?_
        have hw : pw D A s.heap _ _ [wd_Mo cs mo mr (fun _ => none) (upd mf 9 0) md (gMo PG hq), fm 8 (fPg cs PG), fm 13 (fPr cs hq qr QO QF QA)] := fm_back (pr := [wd_Mo cs mo mr (fun _ => none) (upd mf 9 0) md (gMo PG hq), fm 8 (fPg cs PG)]) (T := fPr cs hq qr QO QF QA) hw hi1
        have hw : pw D A s.heap _ _ [wd_Mo cs mo mr (fun _ => none) (upd mf 9 0) md (gMo PG hq), fm 13 (fPr cs hq qr QO QF QA), fm 8 (fPg cs PG)] := hw.sub [0, 2, 1] rfl rfl
        refine px_calli (pr := []) (px_runV (As := [.int p0, .int z4]) (rest := []) S (c_mo_receives l D cs RR mo mr md (upd mf 9 0) hq qr QO QF QA PG p0 z4  (show 0 ≤ p0.toInt from by first | exact g0 | omega) (show p0.toInt < 13 from by first | exact g1 | omega) hpr hpg _) hT (pr := []) (pcs := [wd_Mo cs mo mr (fun _ => none) (upd mf 9 0) md (gMo PG hq), fm 13 (fPr cs hq qr QO QF QA), fm 8 (fPg cs PG)]) hw px_X.tt (px_recv hT hw 0 0 rfl rfl rfl) m14_66 m14_63 m14_65 ms_16_1 m1_20 q_Mo_receives ⟨Nat.le_of_ble_eq_true rfl, Nat.le_of_ble_eq_true rfl⟩ hl.1 rfl (Nat.le_of_ble_eq_true rfl) d_Mo_ownCall_150 ⟨Nat.le_of_ble_eq_true rfl, Nat.le_of_ble_eq_true rfl⟩) hw hA (fun v181 p180 H locs hp180 hw => ?_)
        obtain ⟨mf176, QO177, QF178, QA179, rfl, e182, e183, e184, e185, e186, e187, e188, e189, e190, e191⟩ := hp180
        replace e182 : PrA PG RR QO177 QF178 QA179 := e182
        have hpr := e182
        replace e183 : KpP QO QF QA QO177 QF178 QA179 p0.toNatClampNeg := e183
        have hkp := hkp.tr e183
        replace e184 : (mf176 0).toInt = (mf 0).toInt := e184
        replace e185 : (mf176 2).toInt = (mf 2).toInt := e185
        replace e186 : (mf176 3).toInt = (mf 3).toInt := e186
        replace e187 : (mf176 7).toInt = (mf 7).toInt := e187
        replace e188 : (mf176 8).toInt = (mf 8).toInt := e188
        replace e189 : (mf176 10).toInt = (mf 10).toInt := e189
        replace e190 : 0 ≤ v181.toInt := e190
        replace e191 : v181.toInt ≤ 1 := e191
        replace hw : pw D A s.heap H locs [wd_Mo cs mo mr (fun _ => none) mf176 md (gMo PG hq), fm 13 (fPr cs hq qr QO177 QF178 QA179), fm 8 (fPg cs PG)] := hw
        have lv181 := Int32.le_toInt v181
        have uv181 := Int32.toInt_lt v181
        refine lv_istore (lv' := [(6, .int v181), (7, .int 1), (5, .int 0), (4, .int z4), (3, .ref (hq p0.toNatClampNeg)), (0, .ref mo), (1, .int p0), (2, .int p1)]) S.x S.b d_Mo_ownCall_153 hl (by decide) rfl (fun ls hl => ?_)
        refine lv_goto (tgt := 241) S.x S.b d_Mo_ownCall_155 (by decide) ?_
        refine lv_iload S.x S.b d_Mo_ownCall_241 (lv_at hl 0 rfl) ?_
        refine lv_if_eq (tgt := 265) S.x S.b d_Mo_ownCall_243 (by decide) (fun c192 => ?_) (fun c192 => ?_)
        · have nc192 : v181.toInt = (0 : Int) := (i_eq (x := v181) (y := 0)).mp c192
          refine lv_iload S.x S.b d_Mo_ownCall_265 (lv_at hl 0 rfl) ?_
          exact px_iret (v := v181) S hr (z_nar (by omega)) hlk hAe hw (Nat.le_of_ble_eq_true rfl) (Nat.le_of_ble_eq_true rfl) (⟨mf176, md, QO177, QF178, QA179, rfl, (show 0 ≤ v181.toInt from by first | exact e190 | omega), (show v181.toInt ≤ 1 from by first | exact e191 | omega), (show OwQ v181.toInt (PrA PG RR QO177 QF178 QA179) (PrX PG RR QO177 QF178 QA179 p0.toNatClampNeg ∧ PdT (PG j9) (RR p0.toNatClampNeg) (QF178 p0.toNatClampNeg) (QA179 p0.toNatClampNeg)) from (Or.inl ⟨by omega, hpr⟩)), (show KpO QO QF QO177 QF178 p0.toNatClampNeg from hkp.o), (show (mf176 0).toInt = (mf 0).toInt from by first | exact e184 | omega), (show (mf176 2).toInt = (mf 2).toInt from by first | exact e185 | omega), (show (mf176 3).toInt = (mf 3).toInt from by first | exact e186 | omega), (show (mf176 7).toInt = (mf 7).toInt from by first | exact e187 | omega), (show (mf176 8).toInt = (mf 8).toInt from by first | exact e188 | omega), (show (mf176 10).toInt = (mf 10).toInt from by first | exact e189 | omega)⟩) d_Mo_ownCall_267
        · have nc192 : ¬ v181.toInt = (0 : Int) := mt (i_eq (x := v181) (y := 0)).mpr c192
          refine lv_aload_n S.x S.b d_Mo_ownCall_246 rfl (lv_at hl 4 rfl) ?_
          have hkf := hkp.2.1; unfold KpF at hkf
          refine lv_aload_n S.x S.b d_Mo_ownCall_247 rfl (lv_at hl 4 rfl) ?_
          have hw : pw D A s.heap _ _ [wd_Mo cs mo mr (fun _ => none) mf176 md (gMo PG hq), fm 8 (fPg cs PG), fm 13 (fPr cs hq qr QO177 QF178 QA179)] := hw.sub [0, 2, 1] rfl rfl
          have hc193 := cl_nat (x := p0) (by first | exact g0 | omega)
          have hi193 : p0.toNatClampNeg < 13 := by first | exact hi1 | omega
          have hw : pw D A s.heap _ _ [wd_Mo cs mo mr (fun _ => none) mf176 md (gMo PG hq), fm 8 (fPg cs PG), fo 13 (fPr cs hq qr QO177 QF178 QA179) p0.toNatClampNeg, wd_Mpr cs (hq p0.toNatClampNeg) (qr p0.toNatClampNeg) (fun _ => QO177 p0.toNatClampNeg) (QF178 p0.toNatClampNeg) (QA179 p0.toNatClampNeg) (fun _ _ => none)] := fm_out (pr := [wd_Mo cs mo mr (fun _ => none) mf176 md (gMo PG hq), fm 8 (fPg cs PG)]) (T := fPr cs hq qr QO177 QF178 QA179) hw hi193
          have hps193 := hpr.1 p0.toNatClampNeg hi193
          have hpb193 := hps193.1
          unfold PsB at hpb193
          refine px_get S k_Mpr hT hw 3 0 10 (v := .int ((QF178 p0.toNatClampNeg) 10)) rfl rfl rfl (by decide) m11_1 d_Mo_ownCall_248 ?_
          refine lv_iload S.x S.b d_Mo_ownCall_251 (lv_at hl 1 rfl) ?_
          refine lv_isub S.x S.b d_Mo_ownCall_253 ?_
          have lr194 := Int32.le_toInt ((QF178 p0.toNatClampNeg) 10)
          have ur194 := Int32.toInt_lt ((QF178 p0.toNatClampNeg) 10)
          refine lv_topi (fun z195 ez195 => ?_)
          have tz195 : z195.toInt = (((QF178 p0.toNatClampNeg) 10).toInt - (1 : Int) + 2147483648) % 4294967296 - 2147483648 := by rw [ez195]; exact i_sub ((QF178 p0.toNatClampNeg) 10) 1
          have lz195 := Int32.le_toInt z195
          have uz195 := Int32.toInt_lt z195
          try replace tz195 : z195.toInt = ((QF178 p0.toNatClampNeg) 10).toInt - (1 : Int) := by omega
          refine px_put S k_Mpr hT hw 3 0 10 rfl rfl (by decide) m11_1 rfl rfl rfl (Nat.le_of_ble_eq_true rfl) d_Mo_ownCall_254 (w' := wd_Mpr cs (hq p0.toNatClampNeg) (qr p0.toNatClampNeg) (fun _ => QO177 p0.toNatClampNeg) (upd (QF178 p0.toNatClampNeg) 10 z195) (QA179 p0.toNatClampNeg) (fun _ _ => none)) (ps' := [wd_Mo cs mo mr (fun _ => none) mf176 md (gMo PG hq), fm 8 (fPg cs PG), fo 13 (fPr cs hq qr QO177 QF178 QA179) p0.toNatClampNeg, wd_Mpr cs (hq p0.toNatClampNeg) (qr p0.toNatClampNeg) (fun _ => QO177 p0.toNatClampNeg) (upd (QF178 p0.toNatClampNeg) 10 z195) (QA179 p0.toNatClampNeg) (fun _ _ => none)]) rfl rfl (fun H locs hw => ?_)
          refine lv_aload_n S.x S.b d_Mo_ownCall_257 rfl (lv_at hl 4 rfl) ?_
          refine lv_aload_n S.x S.b d_Mo_ownCall_258 rfl (lv_at hl 5 rfl) ?_
          refine px_get S k_Mo hT hw 0 0 9 (v := .int (mf176 9)) rfl rfl rfl (by decide) m11_87 d_Mo_ownCall_259 ?_
          refine px_callv (pr := [wd_Mo cs mo mr (fun _ => none) mf176 md (gMo PG hq), fm 8 (fPg cs PG), fo 13 (fPr cs hq qr QO177 QF178 QA179) p0.toNatClampNeg]) (px_runV (As := [.int (mf176 9)]) (rest := []) S (c_mq_give l D cs (hq p0.toNatClampNeg) (qr p0.toNatClampNeg) (fun _ _ => none) (fun _ => QO177 p0.toNatClampNeg) (upd (QF178 p0.toNatClampNeg) 10 z195) (QA179 p0.toNatClampNeg) (mf176 9)  (show 0 ≤ z195.toInt from by first | with_reducible rfl | with_reducible assumption | omega) (show z195.toInt < 62500 from by first | with_reducible rfl | with_reducible assumption | omega) _) hT (pr := [wd_Mo cs mo mr (fun _ => none) mf176 md (gMo PG hq), fm 8 (fPg cs PG), fo 13 (fPr cs hq qr QO177 QF178 QA179) p0.toNatClampNeg]) (pcs := [wd_Mpr cs (hq p0.toNatClampNeg) (qr p0.toNatClampNeg) (fun _ => QO177 p0.toNatClampNeg) (upd (QF178 p0.toNatClampNeg) 10 z195) (QA179 p0.toNatClampNeg) (fun _ _ => none)]) hw px_X.tt (px_recv hT hw 3 0 rfl rfl rfl) m13_161 m14_111 m13_159 m13_160 m1_22 q_Mpr_give ⟨Nat.le_of_ble_eq_true rfl, Nat.le_of_ble_eq_true rfl⟩ hl.1 rfl (Nat.le_of_ble_eq_true rfl) d_Mo_ownCall_262 ⟨Nat.le_of_ble_eq_true rfl, Nat.le_of_ble_eq_true rfl⟩) hw hA (fun p200 H locs hp200 hw => ?_)
          obtain ⟨qf198, qa199, rfl, e202, e203, e204, e205, e206, e207, e208, e209, e210, e211, e212, e213, e214, e215, e216, e217⟩ := hp200
          replace e202 : (qf198 10).toInt = z195.toInt + 1 := e202
          replace e203 : (qf198 1).toInt = ((QF178 p0.toNatClampNeg) 1).toInt := e203
          replace e204 : (qf198 2).toInt = ((QF178 p0.toNatClampNeg) 2).toInt := e204
          replace e205 : (qf198 3).toInt = ((QF178 p0.toNatClampNeg) 3).toInt := e205
          replace e206 : (qf198 4).toInt = ((QF178 p0.toNatClampNeg) 4).toInt := e206
          replace e207 : (qf198 5).toInt = ((QF178 p0.toNatClampNeg) 5).toInt := e207
          replace e208 : (qf198 6).toInt = ((QF178 p0.toNatClampNeg) 6).toInt := e208
          replace e209 : (qf198 7).toInt = ((QF178 p0.toNatClampNeg) 7).toInt := e209
          replace e210 : (qf198 11).toInt = ((QF178 p0.toNatClampNeg) 11).toInt := e210
          replace e211 : (qf198 12).toInt = ((QF178 p0.toNatClampNeg) 12).toInt := e211
          replace e212 : (qf198 13).toInt = ((QF178 p0.toNatClampNeg) 13).toInt := e212
          replace e213 : (qf198 14).toInt = ((QF178 p0.toNatClampNeg) 14).toInt := e213
          replace e214 : (qf198 21).toInt = ((QF178 p0.toNatClampNeg) 21).toInt := e214
          replace e215 : (qf198 23).toInt = ((QF178 p0.toNatClampNeg) 23).toInt := e215
          replace e216 : (qf198 24).toInt = ((QF178 p0.toNatClampNeg) 24).toInt := e216
          replace e217 : NuU (QA179 p0.toNatClampNeg) qa199 9 z195.toInt (mf176 9) := e217
          skip
          replace hw : pw D A s.heap H locs [wd_Mo cs mo mr (fun _ => none) mf176 md (gMo PG hq), fm 8 (fPg cs PG), fo 13 (fPr cs hq qr QO177 QF178 QA179) p0.toNatClampNeg, wd_Mpr cs (hq p0.toNatClampNeg) (qr p0.toNatClampNeg) (fun _ => QO177 p0.toNatClampNeg) qf198 qa199 (fun _ _ => none)] := hw
          refine lv_iload S.x S.b d_Mo_ownCall_265 (lv_at hl 0 rfl) ?_
          have hw := fpr_in (pr := [wd_Mo cs mo mr (fun _ => none) mf176 md (gMo PG hq), fm 8 (fPg cs PG)]) hw hi193
          obtain ⟨QO218, hu_QO218⟩ : ∃ y : Nat → Option Nat, y = va_up QO177 p0.toNatClampNeg ((fun _ => QO177 p0.toNatClampNeg) 0) := ⟨_, rfl⟩
          obtain ⟨QF219, hu_QF219⟩ : ∃ y : Nat → Nat → Int32, y = va_up QF178 p0.toNatClampNeg qf198 := ⟨_, rfl⟩
          obtain ⟨QA220, hu_QA220⟩ : ∃ y : Nat → Nat → Nat → Int32, y = va_up QA179 p0.toNatClampNeg qa199 := ⟨_, rfl⟩
          have hw : pw D A s.heap _ _ [wd_Mo cs mo mr (fun _ => none) mf176 md (gMo PG hq), fm 8 (fPg cs PG), fm 13 (fPr cs hq qr QO218 QF219 QA220)] := (by rw [hu_QO218, hu_QF219, hu_QA220]; exact hw)
          have hpx : PrX PG RR QO218 QF219 QA220 p0.toNatClampNeg := (by rw [hu_QO218, hu_QF219, hu_QA220]; exact PrX.up (hpr.px hi193) (show (0 ≤ (qf198 1).toInt ∧ (qf198 1).toInt ≤ 1) ∧ (0 ≤ (qf198 21).toInt ∧ (qf198 21).toInt ≤ 4) ∧ (0 ≤ (qf198 23).toInt ∧ (qf198 23).toInt ≤ 4) ∧ (0 ≤ (qf198 24).toInt ∧ (qf198 24).toInt ≤ 1000000) ∧ (0 ≤ (qf198 6).toInt ∧ (qf198 6).toInt ≤ 3) ∧ (0 ≤ (qf198 7).toInt ∧ (qf198 7).toInt ≤ 1) from by first | with_reducible rfl | with_reducible assumption | omega) (show (qf198 1).toInt = (QF178 p0.toNatClampNeg 1).toInt from by first | exact oz_1811ac7fe4 e203 | omega) (show (QF178 p0.toNatClampNeg 6).toInt ≤ (qf198 6).toInt from by first | exact oz_f9b42d1b56 e208 | omega))
          have hpd : PdT (PG j9) (RR p0.toNatClampNeg) (QF219 p0.toNatClampNeg) (QA220 p0.toNatClampNeg) := (by rw [hu_QF219, hu_QA220, va_up_s, va_up_s]; exact PoT.ans hpo (show (qf198 4).toInt = (QF p0.toNatClampNeg 4).toInt ∧ (qf198 5).toInt = (QF p0.toNatClampNeg 5).toInt ∧ (qf198 11).toInt = (QF p0.toNatClampNeg 11).toInt ∧ (qf198 12).toInt = (QF p0.toNatClampNeg 12).toInt ∧ (qf198 13).toInt = (QF p0.toNatClampNeg 13).toInt ∧ (qf198 14).toInt = (QF p0.toNatClampNeg 14).toInt from by first | with_reducible rfl | with_reducible assumption | omega) (show (qf198 10).toInt = (QF p0.toNatClampNeg 10).toInt - ((oslots p1.toInt).length : Int) + 1 from by first | with_reducible rfl | with_reducible assumption | omega) (show (qf198 24).toInt = (QF p0.toNatClampNeg 24).toInt ∨ (p1.toInt = 1 ∧ (qf198 24).toInt = (QF p0.toNatClampNeg 24).toInt + 1) from by first | with_reducible rfl | with_reducible assumption | omega) (fun i9 q9 => absurd (by rw [hkp.2.2 8 (by decide) (by decide)]) q9) (fun k9 a9 b9 c9 d9 => hkp.2.2 k9 b9 c9) (show NuU _ _ 9 ((QF p0.toNatClampNeg 10).toInt - ((oslots p1.toInt).length : Int)) _ from (by have q8 := e217; rw [show (z195.toInt) = (QF p0.toNatClampNeg 10).toInt - ((oslots p1.toInt).length : Int) by omega] at q8; exact q8)))
          have hko : KpO QO QF QO218 QF219 p0.toNatClampNeg := (by rw [hu_QO218, hu_QF219]; refine ⟨by rw [va_up_s]; first | done | exact hkp.1, ?_⟩; rw [va_up_s]; exact (show (qf198 1).toInt = (QF p0.toNatClampNeg 1).toInt ∧ (qf198 7).toInt = (QF p0.toNatClampNeg 7).toInt ∧ (qf198 11).toInt = (QF p0.toNatClampNeg 11).toInt from by first | with_reducible rfl | with_reducible assumption | omega))
          have hw : pw D A s.heap _ _ [wd_Mo cs mo mr (fun _ => none) mf176 md (gMo PG hq), fm 13 (fPr cs hq qr QO218 QF219 QA220), fm 8 (fPg cs PG)] := hw.sub [0, 2, 1] rfl rfl
          exact px_iret (v := v181) S hr (z_nar (by omega)) hlk hAe hw (Nat.le_of_ble_eq_true rfl) (Nat.le_of_ble_eq_true rfl) (⟨mf176, md, QO218, QF219, QA220, rfl, (show 0 ≤ v181.toInt from by first | exact e190 | omega), (show v181.toInt ≤ 1 from by first | exact e191 | omega), (show OwQ v181.toInt (PrA PG RR QO218 QF219 QA220) (PrX PG RR QO218 QF219 QA220 p0.toNatClampNeg ∧ PdT (PG j9) (RR p0.toNatClampNeg) (QF219 p0.toNatClampNeg) (QA220 p0.toNatClampNeg)) from (Or.inr ⟨by omega, hpx, hpd⟩)), (show KpO QO QF QO218 QF219 p0.toNatClampNeg from hko), (show (mf176 0).toInt = (mf 0).toInt from by first | exact e184 | omega), (show (mf176 2).toInt = (mf 2).toInt from by first | exact e185 | omega), (show (mf176 3).toInt = (mf 3).toInt from by first | exact e186 | omega), (show (mf176 7).toInt = (mf 7).toInt from by first | exact e187 | omega), (show (mf176 8).toInt = (mf 8).toInt from by first | exact e188 | omega), (show (mf176 10).toInt = (mf 10).toInt from by first | exact e189 | omega)⟩) d_Mo_ownCall_267
      · simp only [List.mem_cons, List.not_mem_nil, or_false] at c52
        refine lv_aload_n S.x S.b d_Mo_ownCall_158 rfl (lv_at hl 5 rfl) ?_
        refine lv_iload_n S.x S.b d_Mo_ownCall_159 rfl (lv_at hl 6 rfl) ?_
        refine lv_iload S.x S.b d_Mo_ownCall_160 (lv_at hl 3 rfl) ?_
        have hw : pw D A s.heap _ _ [wd_Mo cs mo mr (fun _ => none) (upd mf 9 0) md (gMo PG hq), fm 8 (fPg cs PG), fm 13 (fPr cs hq qr QO QF QA)] := fm_back (pr := [wd_Mo cs mo mr (fun _ => none) (upd mf 9 0) md (gMo PG hq), fm 8 (fPg cs PG)]) (T := fPr cs hq qr QO QF QA) hw hi1
        have hw : pw D A s.heap _ _ [wd_Mo cs mo mr (fun _ => none) (upd mf 9 0) md (gMo PG hq), fm 13 (fPr cs hq qr QO QF QA), fm 8 (fPg cs PG)] := hw.sub [0, 2, 1] rfl rfl
        refine px_calli (pr := []) (px_runV (As := [.int p0, .int z4]) (rest := []) S (c_mo_asksMore l D cs RR mo mr md (upd mf 9 0) hq qr QO QF QA PG p0 z4  (show 0 ≤ p0.toInt from by first | exact g0 | omega) (show p0.toInt < 13 from by first | exact g1 | omega) hpr hpg _) hT (pr := []) (pcs := [wd_Mo cs mo mr (fun _ => none) (upd mf 9 0) md (gMo PG hq), fm 13 (fPr cs hq qr QO QF QA), fm 8 (fPg cs PG)]) hw px_X.tt (px_recv hT hw 0 0 rfl rfl rfl) m14_78 m14_75 m14_77 ms_16_4 m1_20 q_Mo_asksMore ⟨Nat.le_of_ble_eq_true rfl, Nat.le_of_ble_eq_true rfl⟩ hl.1 rfl (Nat.le_of_ble_eq_true rfl) d_Mo_ownCall_162 ⟨Nat.le_of_ble_eq_true rfl, Nat.le_of_ble_eq_true rfl⟩) hw hA (fun v230 p229 H locs hp229 hw => ?_)
        obtain ⟨mf225, QO226, QF227, QA228, rfl, e231, e232, e233, e234, e235, e236, e237, e238, e239, e240⟩ := hp229
        replace e231 : PrA PG RR QO226 QF227 QA228 := e231
        have hpr := e231
        replace e232 : KpP QO QF QA QO226 QF227 QA228 p0.toNatClampNeg := e232
        have hkp := hkp.tr e232
        replace e233 : (mf225 0).toInt = (mf 0).toInt := e233
        replace e234 : (mf225 2).toInt = (mf 2).toInt := e234
        replace e235 : (mf225 3).toInt = (mf 3).toInt := e235
        replace e236 : (mf225 7).toInt = (mf 7).toInt := e236
        replace e237 : (mf225 8).toInt = (mf 8).toInt := e237
        replace e238 : (mf225 10).toInt = (mf 10).toInt := e238
        replace e239 : 0 ≤ v230.toInt := e239
        replace e240 : v230.toInt ≤ 1 := e240
        replace hw : pw D A s.heap H locs [wd_Mo cs mo mr (fun _ => none) mf225 md (gMo PG hq), fm 13 (fPr cs hq qr QO226 QF227 QA228), fm 8 (fPg cs PG)] := hw
        have lv230 := Int32.le_toInt v230
        have uv230 := Int32.toInt_lt v230
        refine lv_istore (lv' := [(6, .int v230), (7, .int 1), (5, .int 0), (4, .int z4), (3, .ref (hq p0.toNatClampNeg)), (0, .ref mo), (1, .int p0), (2, .int p1)]) S.x S.b d_Mo_ownCall_165 hl (by decide) rfl (fun ls hl => ?_)
        refine lv_goto (tgt := 241) S.x S.b d_Mo_ownCall_167 (by decide) ?_
        refine lv_iload S.x S.b d_Mo_ownCall_241 (lv_at hl 0 rfl) ?_
        refine lv_if_eq (tgt := 265) S.x S.b d_Mo_ownCall_243 (by decide) (fun c241 => ?_) (fun c241 => ?_)
        · have nc241 : v230.toInt = (0 : Int) := (i_eq (x := v230) (y := 0)).mp c241
          refine lv_iload S.x S.b d_Mo_ownCall_265 (lv_at hl 0 rfl) ?_
          exact px_iret (v := v230) S hr (z_nar (by omega)) hlk hAe hw (Nat.le_of_ble_eq_true rfl) (Nat.le_of_ble_eq_true rfl) (⟨mf225, md, QO226, QF227, QA228, rfl, (show 0 ≤ v230.toInt from by first | exact e239 | omega), (show v230.toInt ≤ 1 from by first | exact e240 | omega), (show OwQ v230.toInt (PrA PG RR QO226 QF227 QA228) (PrX PG RR QO226 QF227 QA228 p0.toNatClampNeg ∧ PdT (PG j9) (RR p0.toNatClampNeg) (QF227 p0.toNatClampNeg) (QA228 p0.toNatClampNeg)) from (Or.inl ⟨by omega, hpr⟩)), (show KpO QO QF QO226 QF227 p0.toNatClampNeg from hkp.o), (show (mf225 0).toInt = (mf 0).toInt from by first | exact e233 | omega), (show (mf225 2).toInt = (mf 2).toInt from by first | exact e234 | omega), (show (mf225 3).toInt = (mf 3).toInt from by first | exact e235 | omega), (show (mf225 7).toInt = (mf 7).toInt from by first | exact e236 | omega), (show (mf225 8).toInt = (mf 8).toInt from by first | exact e237 | omega), (show (mf225 10).toInt = (mf 10).toInt from by first | exact e238 | omega)⟩) d_Mo_ownCall_267
        · have nc241 : ¬ v230.toInt = (0 : Int) := mt (i_eq (x := v230) (y := 0)).mpr c241
          refine lv_aload_n S.x S.b d_Mo_ownCall_246 rfl (lv_at hl 4 rfl) ?_
          have hkf := hkp.2.1; unfold KpF at hkf
          refine lv_aload_n S.x S.b d_Mo_ownCall_247 rfl (lv_at hl 4 rfl) ?_
          have hw : pw D A s.heap _ _ [wd_Mo cs mo mr (fun _ => none) mf225 md (gMo PG hq), fm 8 (fPg cs PG), fm 13 (fPr cs hq qr QO226 QF227 QA228)] := hw.sub [0, 2, 1] rfl rfl
          have hc242 := cl_nat (x := p0) (by first | exact g0 | omega)
          have hi242 : p0.toNatClampNeg < 13 := by first | exact hi1 | omega
          have hw : pw D A s.heap _ _ [wd_Mo cs mo mr (fun _ => none) mf225 md (gMo PG hq), fm 8 (fPg cs PG), fo 13 (fPr cs hq qr QO226 QF227 QA228) p0.toNatClampNeg, wd_Mpr cs (hq p0.toNatClampNeg) (qr p0.toNatClampNeg) (fun _ => QO226 p0.toNatClampNeg) (QF227 p0.toNatClampNeg) (QA228 p0.toNatClampNeg) (fun _ _ => none)] := fm_out (pr := [wd_Mo cs mo mr (fun _ => none) mf225 md (gMo PG hq), fm 8 (fPg cs PG)]) (T := fPr cs hq qr QO226 QF227 QA228) hw hi242
          have hps242 := hpr.1 p0.toNatClampNeg hi242
          have hpb242 := hps242.1
          unfold PsB at hpb242
          refine px_get S k_Mpr hT hw 3 0 10 (v := .int ((QF227 p0.toNatClampNeg) 10)) rfl rfl rfl (by decide) m11_1 d_Mo_ownCall_248 ?_
          refine lv_iload S.x S.b d_Mo_ownCall_251 (lv_at hl 1 rfl) ?_
          refine lv_isub S.x S.b d_Mo_ownCall_253 ?_
          have lr243 := Int32.le_toInt ((QF227 p0.toNatClampNeg) 10)
          have ur243 := Int32.toInt_lt ((QF227 p0.toNatClampNeg) 10)
          refine lv_topi (fun z244 ez244 => ?_)
          have tz244 : z244.toInt = (((QF227 p0.toNatClampNeg) 10).toInt - (1 : Int) + 2147483648) % 4294967296 - 2147483648 := by rw [ez244]; exact i_sub ((QF227 p0.toNatClampNeg) 10) 1
          have lz244 := Int32.le_toInt z244
          have uz244 := Int32.toInt_lt z244
          try replace tz244 : z244.toInt = ((QF227 p0.toNatClampNeg) 10).toInt - (1 : Int) := by omega
          refine px_put S k_Mpr hT hw 3 0 10 rfl rfl (by decide) m11_1 rfl rfl rfl (Nat.le_of_ble_eq_true rfl) d_Mo_ownCall_254 (w' := wd_Mpr cs (hq p0.toNatClampNeg) (qr p0.toNatClampNeg) (fun _ => QO226 p0.toNatClampNeg) (upd (QF227 p0.toNatClampNeg) 10 z244) (QA228 p0.toNatClampNeg) (fun _ _ => none)) (ps' := [wd_Mo cs mo mr (fun _ => none) mf225 md (gMo PG hq), fm 8 (fPg cs PG), fo 13 (fPr cs hq qr QO226 QF227 QA228) p0.toNatClampNeg, wd_Mpr cs (hq p0.toNatClampNeg) (qr p0.toNatClampNeg) (fun _ => QO226 p0.toNatClampNeg) (upd (QF227 p0.toNatClampNeg) 10 z244) (QA228 p0.toNatClampNeg) (fun _ _ => none)]) rfl rfl (fun H locs hw => ?_)
          refine lv_aload_n S.x S.b d_Mo_ownCall_257 rfl (lv_at hl 4 rfl) ?_
          refine lv_aload_n S.x S.b d_Mo_ownCall_258 rfl (lv_at hl 5 rfl) ?_
          refine px_get S k_Mo hT hw 0 0 9 (v := .int (mf225 9)) rfl rfl rfl (by decide) m11_87 d_Mo_ownCall_259 ?_
          refine px_callv (pr := [wd_Mo cs mo mr (fun _ => none) mf225 md (gMo PG hq), fm 8 (fPg cs PG), fo 13 (fPr cs hq qr QO226 QF227 QA228) p0.toNatClampNeg]) (px_runV (As := [.int (mf225 9)]) (rest := []) S (c_mq_give l D cs (hq p0.toNatClampNeg) (qr p0.toNatClampNeg) (fun _ _ => none) (fun _ => QO226 p0.toNatClampNeg) (upd (QF227 p0.toNatClampNeg) 10 z244) (QA228 p0.toNatClampNeg) (mf225 9)  (show 0 ≤ z244.toInt from by first | with_reducible rfl | with_reducible assumption | omega) (show z244.toInt < 62500 from by first | with_reducible rfl | with_reducible assumption | omega) _) hT (pr := [wd_Mo cs mo mr (fun _ => none) mf225 md (gMo PG hq), fm 8 (fPg cs PG), fo 13 (fPr cs hq qr QO226 QF227 QA228) p0.toNatClampNeg]) (pcs := [wd_Mpr cs (hq p0.toNatClampNeg) (qr p0.toNatClampNeg) (fun _ => QO226 p0.toNatClampNeg) (upd (QF227 p0.toNatClampNeg) 10 z244) (QA228 p0.toNatClampNeg) (fun _ _ => none)]) hw px_X.tt (px_recv hT hw 3 0 rfl rfl rfl) m13_161 m14_111 m13_159 m13_160 m1_22 q_Mpr_give ⟨Nat.le_of_ble_eq_true rfl, Nat.le_of_ble_eq_true rfl⟩ hl.1 rfl (Nat.le_of_ble_eq_true rfl) d_Mo_ownCall_262 ⟨Nat.le_of_ble_eq_true rfl, Nat.le_of_ble_eq_true rfl⟩) hw hA (fun p249 H locs hp249 hw => ?_)
          obtain ⟨qf247, qa248, rfl, e251, e252, e253, e254, e255, e256, e257, e258, e259, e260, e261, e262, e263, e264, e265, e266⟩ := hp249
          replace e251 : (qf247 10).toInt = z244.toInt + 1 := e251
          replace e252 : (qf247 1).toInt = ((QF227 p0.toNatClampNeg) 1).toInt := e252
          replace e253 : (qf247 2).toInt = ((QF227 p0.toNatClampNeg) 2).toInt := e253
          replace e254 : (qf247 3).toInt = ((QF227 p0.toNatClampNeg) 3).toInt := e254
          replace e255 : (qf247 4).toInt = ((QF227 p0.toNatClampNeg) 4).toInt := e255
          replace e256 : (qf247 5).toInt = ((QF227 p0.toNatClampNeg) 5).toInt := e256
          replace e257 : (qf247 6).toInt = ((QF227 p0.toNatClampNeg) 6).toInt := e257
          replace e258 : (qf247 7).toInt = ((QF227 p0.toNatClampNeg) 7).toInt := e258
          replace e259 : (qf247 11).toInt = ((QF227 p0.toNatClampNeg) 11).toInt := e259
          replace e260 : (qf247 12).toInt = ((QF227 p0.toNatClampNeg) 12).toInt := e260
          replace e261 : (qf247 13).toInt = ((QF227 p0.toNatClampNeg) 13).toInt := e261
          replace e262 : (qf247 14).toInt = ((QF227 p0.toNatClampNeg) 14).toInt := e262
          replace e263 : (qf247 21).toInt = ((QF227 p0.toNatClampNeg) 21).toInt := e263
          replace e264 : (qf247 23).toInt = ((QF227 p0.toNatClampNeg) 23).toInt := e264
          replace e265 : (qf247 24).toInt = ((QF227 p0.toNatClampNeg) 24).toInt := e265
          replace e266 : NuU (QA228 p0.toNatClampNeg) qa248 9 z244.toInt (mf225 9) := e266
          skip
          replace hw : pw D A s.heap H locs [wd_Mo cs mo mr (fun _ => none) mf225 md (gMo PG hq), fm 8 (fPg cs PG), fo 13 (fPr cs hq qr QO226 QF227 QA228) p0.toNatClampNeg, wd_Mpr cs (hq p0.toNatClampNeg) (qr p0.toNatClampNeg) (fun _ => QO226 p0.toNatClampNeg) qf247 qa248 (fun _ _ => none)] := hw
          refine lv_iload S.x S.b d_Mo_ownCall_265 (lv_at hl 0 rfl) ?_
          have hw := fpr_in (pr := [wd_Mo cs mo mr (fun _ => none) mf225 md (gMo PG hq), fm 8 (fPg cs PG)]) hw hi242
          obtain ⟨QO267, hu_QO267⟩ : ∃ y : Nat → Option Nat, y = va_up QO226 p0.toNatClampNeg ((fun _ => QO226 p0.toNatClampNeg) 0) := ⟨_, rfl⟩
          obtain ⟨QF268, hu_QF268⟩ : ∃ y : Nat → Nat → Int32, y = va_up QF227 p0.toNatClampNeg qf247 := ⟨_, rfl⟩
          obtain ⟨QA269, hu_QA269⟩ : ∃ y : Nat → Nat → Nat → Int32, y = va_up QA228 p0.toNatClampNeg qa248 := ⟨_, rfl⟩
          have hw : pw D A s.heap _ _ [wd_Mo cs mo mr (fun _ => none) mf225 md (gMo PG hq), fm 8 (fPg cs PG), fm 13 (fPr cs hq qr QO267 QF268 QA269)] := (by rw [hu_QO267, hu_QF268, hu_QA269]; exact hw)
          have hpx : PrX PG RR QO267 QF268 QA269 p0.toNatClampNeg := (by rw [hu_QO267, hu_QF268, hu_QA269]; exact PrX.up (hpr.px hi242) (show (0 ≤ (qf247 1).toInt ∧ (qf247 1).toInt ≤ 1) ∧ (0 ≤ (qf247 21).toInt ∧ (qf247 21).toInt ≤ 4) ∧ (0 ≤ (qf247 23).toInt ∧ (qf247 23).toInt ≤ 4) ∧ (0 ≤ (qf247 24).toInt ∧ (qf247 24).toInt ≤ 1000000) ∧ (0 ≤ (qf247 6).toInt ∧ (qf247 6).toInt ≤ 3) ∧ (0 ≤ (qf247 7).toInt ∧ (qf247 7).toInt ≤ 1) from by first | with_reducible rfl | with_reducible assumption | omega) (show (qf247 1).toInt = (QF227 p0.toNatClampNeg 1).toInt from by first | exact oz_1811ac7fe4 e252 | omega) (show (QF227 p0.toNatClampNeg 6).toInt ≤ (qf247 6).toInt from by first | exact oz_f9b42d1b56 e257 | omega))
          have hpd : PdT (PG j9) (RR p0.toNatClampNeg) (QF268 p0.toNatClampNeg) (QA269 p0.toNatClampNeg) := (by rw [hu_QF268, hu_QA269, va_up_s, va_up_s]; exact PoT.ans hpo (show (qf247 4).toInt = (QF p0.toNatClampNeg 4).toInt ∧ (qf247 5).toInt = (QF p0.toNatClampNeg 5).toInt ∧ (qf247 11).toInt = (QF p0.toNatClampNeg 11).toInt ∧ (qf247 12).toInt = (QF p0.toNatClampNeg 12).toInt ∧ (qf247 13).toInt = (QF p0.toNatClampNeg 13).toInt ∧ (qf247 14).toInt = (QF p0.toNatClampNeg 14).toInt from by first | with_reducible rfl | with_reducible assumption | omega) (show (qf247 10).toInt = (QF p0.toNatClampNeg 10).toInt - ((oslots p1.toInt).length : Int) + 1 from by first | with_reducible rfl | with_reducible assumption | omega) (show (qf247 24).toInt = (QF p0.toNatClampNeg 24).toInt ∨ (p1.toInt = 1 ∧ (qf247 24).toInt = (QF p0.toNatClampNeg 24).toInt + 1) from by first | with_reducible rfl | with_reducible assumption | omega) (fun i9 q9 => absurd (by rw [hkp.2.2 8 (by decide) (by decide)]) q9) (fun k9 a9 b9 c9 d9 => hkp.2.2 k9 b9 c9) (show NuU _ _ 9 ((QF p0.toNatClampNeg 10).toInt - ((oslots p1.toInt).length : Int)) _ from (by have q8 := e266; rw [show (z244.toInt) = (QF p0.toNatClampNeg 10).toInt - ((oslots p1.toInt).length : Int) by omega] at q8; exact q8)))
          have hko : KpO QO QF QO267 QF268 p0.toNatClampNeg := (by rw [hu_QO267, hu_QF268]; refine ⟨by rw [va_up_s]; first | done | exact hkp.1, ?_⟩; rw [va_up_s]; exact (show (qf247 1).toInt = (QF p0.toNatClampNeg 1).toInt ∧ (qf247 7).toInt = (QF p0.toNatClampNeg 7).toInt ∧ (qf247 11).toInt = (QF p0.toNatClampNeg 11).toInt from by first | with_reducible rfl | with_reducible assumption | omega))
          have hw : pw D A s.heap _ _ [wd_Mo cs mo mr (fun _ => none) mf225 md (gMo PG hq), fm 13 (fPr cs hq qr QO267 QF268 QA269), fm 8 (fPg cs PG)] := hw.sub [0, 2, 1] rfl rfl
          exact px_iret (v := v230) S hr (z_nar (by omega)) hlk hAe hw (Nat.le_of_ble_eq_true rfl) (Nat.le_of_ble_eq_true rfl) (⟨mf225, md, QO267, QF268, QA269, rfl, (show 0 ≤ v230.toInt from by first | exact e239 | omega), (show v230.toInt ≤ 1 from by first | exact e240 | omega), (show OwQ v230.toInt (PrA PG RR QO267 QF268 QA269) (PrX PG RR QO267 QF268 QA269 p0.toNatClampNeg ∧ PdT (PG j9) (RR p0.toNatClampNeg) (QF268 p0.toNatClampNeg) (QA269 p0.toNatClampNeg)) from (Or.inr ⟨by omega, hpx, hpd⟩)), (show KpO QO QF QO267 QF268 p0.toNatClampNeg from hko), (show (mf225 0).toInt = (mf 0).toInt from by first | exact e233 | omega), (show (mf225 2).toInt = (mf 2).toInt from by first | exact e234 | omega), (show (mf225 3).toInt = (mf 3).toInt from by first | exact e235 | omega), (show (mf225 7).toInt = (mf 7).toInt from by first | exact e236 | omega), (show (mf225 8).toInt = (mf 8).toInt from by first | exact e237 | omega), (show (mf225 10).toInt = (mf 10).toInt from by first | exact e238 | omega)⟩) d_Mo_ownCall_267
      · simp only [List.mem_cons, List.not_mem_nil, or_false] at c52
        refine lv_aload_n S.x S.b d_Mo_ownCall_170 rfl (lv_at hl 5 rfl) ?_
        refine lv_iload_n S.x S.b d_Mo_ownCall_171 rfl (lv_at hl 6 rfl) ?_
        refine lv_iload S.x S.b d_Mo_ownCall_172 (lv_at hl 2 rfl) ?_
        refine lv_iload S.x S.b d_Mo_ownCall_174 (lv_at hl 3 rfl) ?_
        have hw : pw D A s.heap _ _ [wd_Mo cs mo mr (fun _ => none) (upd mf 9 0) md (gMo PG hq), fm 8 (fPg cs PG), fm 13 (fPr cs hq qr QO QF QA)] := fm_back (pr := [wd_Mo cs mo mr (fun _ => none) (upd mf 9 0) md (gMo PG hq), fm 8 (fPg cs PG)]) (T := fPr cs hq qr QO QF QA) hw hi1
        have hw : pw D A s.heap _ _ [wd_Mo cs mo mr (fun _ => none) (upd mf 9 0) md (gMo PG hq), fm 13 (fPr cs hq qr QO QF QA), fm 8 (fPg cs PG)] := hw.sub [0, 2, 1] rfl rfl
        refine px_callv (pr := []) (px_runV (As := [.int p0, .int 0, .int z4]) (rest := []) S (c_mo_spawns l D cs RR mo mr md (upd mf 9 0) hq qr QO QF QA PG p0 0 z4  (show 0 ≤ p0.toInt from by first | exact g0 | omega) (show p0.toInt < 13 from by first | exact g1 | omega) (show 0 ≤ (mf 7).toInt from by first | exact g2 | omega) (show (mf 7).toInt ≤ 100 from by first | exact g3 | omega) (show 0 ≤ (mf 8).toInt from by first | exact g4 | omega) (show (mf 8).toInt ≤ 512 from by first | exact g5 | omega) (show (QF p0.toNatClampNeg 1).toInt = 1 from by first | exact g8 | omega) hpr hpg _) hT (pr := []) (pcs := [wd_Mo cs mo mr (fun _ => none) (upd mf 9 0) md (gMo PG hq), fm 13 (fPr cs hq qr QO QF QA), fm 8 (fPg cs PG)]) hw px_X.tt (px_recv hT hw 0 0 rfl rfl rfl) m14_82 m14_79 m14_81 ms_16_5 m1_20 q_Mo_spawns ⟨Nat.le_of_ble_eq_true rfl, Nat.le_of_ble_eq_true rfl⟩ hl.1 rfl (Nat.le_of_ble_eq_true rfl) d_Mo_ownCall_176 ⟨Nat.le_of_ble_eq_true rfl, Nat.le_of_ble_eq_true rfl⟩) hw hA (fun p278 H locs hp278 hw => ?_)
        obtain ⟨mf274, QO275, QF276, QA277, rfl, e280, e281, e282, e283, e284, e285, e286, e287⟩ := hp278
        replace e280 : PrA PG RR QO275 QF276 QA277 := e280
        have hpr := e280
        replace e281 : KpP QO QF QA QO275 QF276 QA277 p0.toNatClampNeg := e281
        have hkp := hkp.tr e281
        replace e282 : (mf274 0).toInt = (mf 0).toInt := e282
        replace e283 : (mf274 2).toInt = (mf 2).toInt := e283
        replace e284 : (mf274 3).toInt = (mf 3).toInt := e284
        replace e285 : (mf274 7).toInt = (mf 7).toInt := e285
        replace e286 : (mf274 8).toInt = (mf 8).toInt := e286
        replace e287 : (mf274 10).toInt = (mf 10).toInt := e287
        replace hw : pw D A s.heap H locs [wd_Mo cs mo mr (fun _ => none) mf274 md (gMo PG hq), fm 13 (fPr cs hq qr QO275 QF276 QA277), fm 8 (fPg cs PG)] := hw
        refine lv_iconst (v := 2) S.x S.b d_Mo_ownCall_179 (by decide) ?_
        refine lv_istore (lv' := [(7, .int 2), (6, .int 1), (5, .int 0), (4, .int z4), (3, .ref (hq p0.toNatClampNeg)), (0, .ref mo), (1, .int p0), (2, .int p1)]) S.x S.b d_Mo_ownCall_180 hl (by decide) rfl (fun ls hl => ?_)
        refine lv_goto (tgt := 241) S.x S.b d_Mo_ownCall_182 (by decide) ?_
        refine lv_iload S.x S.b d_Mo_ownCall_241 (lv_at hl 1 rfl) ?_
        refine lv_if_eq (tgt := 265) S.x S.b d_Mo_ownCall_243 (by decide) (fun c288 => ?_) (fun c288 => ?_)
        · exact absurd c288 (by decide)
        ·
          refine lv_aload_n S.x S.b d_Mo_ownCall_246 rfl (lv_at hl 4 rfl) ?_
          have hkf := hkp.2.1; unfold KpF at hkf
          refine lv_aload_n S.x S.b d_Mo_ownCall_247 rfl (lv_at hl 4 rfl) ?_
          have hw : pw D A s.heap _ _ [wd_Mo cs mo mr (fun _ => none) mf274 md (gMo PG hq), fm 8 (fPg cs PG), fm 13 (fPr cs hq qr QO275 QF276 QA277)] := hw.sub [0, 2, 1] rfl rfl
          have hc289 := cl_nat (x := p0) (by first | exact g0 | omega)
          have hi289 : p0.toNatClampNeg < 13 := by first | exact hi1 | omega
          have hw : pw D A s.heap _ _ [wd_Mo cs mo mr (fun _ => none) mf274 md (gMo PG hq), fm 8 (fPg cs PG), fo 13 (fPr cs hq qr QO275 QF276 QA277) p0.toNatClampNeg, wd_Mpr cs (hq p0.toNatClampNeg) (qr p0.toNatClampNeg) (fun _ => QO275 p0.toNatClampNeg) (QF276 p0.toNatClampNeg) (QA277 p0.toNatClampNeg) (fun _ _ => none)] := fm_out (pr := [wd_Mo cs mo mr (fun _ => none) mf274 md (gMo PG hq), fm 8 (fPg cs PG)]) (T := fPr cs hq qr QO275 QF276 QA277) hw hi289
          have hps289 := hpr.1 p0.toNatClampNeg hi289
          have hpb289 := hps289.1
          unfold PsB at hpb289
          refine px_get S k_Mpr hT hw 3 0 10 (v := .int ((QF276 p0.toNatClampNeg) 10)) rfl rfl rfl (by decide) m11_1 d_Mo_ownCall_248 ?_
          refine lv_iload S.x S.b d_Mo_ownCall_251 (lv_at hl 0 rfl) ?_
          refine lv_isub S.x S.b d_Mo_ownCall_253 ?_
          have lr290 := Int32.le_toInt ((QF276 p0.toNatClampNeg) 10)
          have ur290 := Int32.toInt_lt ((QF276 p0.toNatClampNeg) 10)
          refine lv_topi (fun z291 ez291 => ?_)
          have tz291 : z291.toInt = (((QF276 p0.toNatClampNeg) 10).toInt - (2 : Int) + 2147483648) % 4294967296 - 2147483648 := by rw [ez291]; exact i_sub ((QF276 p0.toNatClampNeg) 10) 2
          have lz291 := Int32.le_toInt z291
          have uz291 := Int32.toInt_lt z291
          try replace tz291 : z291.toInt = ((QF276 p0.toNatClampNeg) 10).toInt - (2 : Int) := by omega
          refine px_put S k_Mpr hT hw 3 0 10 rfl rfl (by decide) m11_1 rfl rfl rfl (Nat.le_of_ble_eq_true rfl) d_Mo_ownCall_254 (w' := wd_Mpr cs (hq p0.toNatClampNeg) (qr p0.toNatClampNeg) (fun _ => QO275 p0.toNatClampNeg) (upd (QF276 p0.toNatClampNeg) 10 z291) (QA277 p0.toNatClampNeg) (fun _ _ => none)) (ps' := [wd_Mo cs mo mr (fun _ => none) mf274 md (gMo PG hq), fm 8 (fPg cs PG), fo 13 (fPr cs hq qr QO275 QF276 QA277) p0.toNatClampNeg, wd_Mpr cs (hq p0.toNatClampNeg) (qr p0.toNatClampNeg) (fun _ => QO275 p0.toNatClampNeg) (upd (QF276 p0.toNatClampNeg) 10 z291) (QA277 p0.toNatClampNeg) (fun _ _ => none)]) rfl rfl (fun H locs hw => ?_)
          refine lv_aload_n S.x S.b d_Mo_ownCall_257 rfl (lv_at hl 4 rfl) ?_
          refine lv_aload_n S.x S.b d_Mo_ownCall_258 rfl (lv_at hl 5 rfl) ?_
          refine px_get S k_Mo hT hw 0 0 9 (v := .int (mf274 9)) rfl rfl rfl (by decide) m11_87 d_Mo_ownCall_259 ?_
          refine px_callv (pr := [wd_Mo cs mo mr (fun _ => none) mf274 md (gMo PG hq), fm 8 (fPg cs PG), fo 13 (fPr cs hq qr QO275 QF276 QA277) p0.toNatClampNeg]) (px_runV (As := [.int (mf274 9)]) (rest := []) S (c_mq_give l D cs (hq p0.toNatClampNeg) (qr p0.toNatClampNeg) (fun _ _ => none) (fun _ => QO275 p0.toNatClampNeg) (upd (QF276 p0.toNatClampNeg) 10 z291) (QA277 p0.toNatClampNeg) (mf274 9)  (show 0 ≤ z291.toInt from by first | with_reducible rfl | with_reducible assumption | omega) (show z291.toInt < 62500 from by first | with_reducible rfl | with_reducible assumption | omega) _) hT (pr := [wd_Mo cs mo mr (fun _ => none) mf274 md (gMo PG hq), fm 8 (fPg cs PG), fo 13 (fPr cs hq qr QO275 QF276 QA277) p0.toNatClampNeg]) (pcs := [wd_Mpr cs (hq p0.toNatClampNeg) (qr p0.toNatClampNeg) (fun _ => QO275 p0.toNatClampNeg) (upd (QF276 p0.toNatClampNeg) 10 z291) (QA277 p0.toNatClampNeg) (fun _ _ => none)]) hw px_X.tt (px_recv hT hw 3 0 rfl rfl rfl) m13_161 m14_111 m13_159 m13_160 m1_22 q_Mpr_give ⟨Nat.le_of_ble_eq_true rfl, Nat.le_of_ble_eq_true rfl⟩ hl.1 rfl (Nat.le_of_ble_eq_true rfl) d_Mo_ownCall_262 ⟨Nat.le_of_ble_eq_true rfl, Nat.le_of_ble_eq_true rfl⟩) hw hA (fun p296 H locs hp296 hw => ?_)
          obtain ⟨qf294, qa295, rfl, e298, e299, e300, e301, e302, e303, e304, e305, e306, e307, e308, e309, e310, e311, e312, e313⟩ := hp296
          replace e298 : (qf294 10).toInt = z291.toInt + 1 := e298
          replace e299 : (qf294 1).toInt = ((QF276 p0.toNatClampNeg) 1).toInt := e299
          replace e300 : (qf294 2).toInt = ((QF276 p0.toNatClampNeg) 2).toInt := e300
          replace e301 : (qf294 3).toInt = ((QF276 p0.toNatClampNeg) 3).toInt := e301
          replace e302 : (qf294 4).toInt = ((QF276 p0.toNatClampNeg) 4).toInt := e302
          replace e303 : (qf294 5).toInt = ((QF276 p0.toNatClampNeg) 5).toInt := e303
          replace e304 : (qf294 6).toInt = ((QF276 p0.toNatClampNeg) 6).toInt := e304
          replace e305 : (qf294 7).toInt = ((QF276 p0.toNatClampNeg) 7).toInt := e305
          replace e306 : (qf294 11).toInt = ((QF276 p0.toNatClampNeg) 11).toInt := e306
          replace e307 : (qf294 12).toInt = ((QF276 p0.toNatClampNeg) 12).toInt := e307
          replace e308 : (qf294 13).toInt = ((QF276 p0.toNatClampNeg) 13).toInt := e308
          replace e309 : (qf294 14).toInt = ((QF276 p0.toNatClampNeg) 14).toInt := e309
          replace e310 : (qf294 21).toInt = ((QF276 p0.toNatClampNeg) 21).toInt := e310
          replace e311 : (qf294 23).toInt = ((QF276 p0.toNatClampNeg) 23).toInt := e311
          replace e312 : (qf294 24).toInt = ((QF276 p0.toNatClampNeg) 24).toInt := e312
          replace e313 : NuU (QA277 p0.toNatClampNeg) qa295 9 z291.toInt (mf274 9) := e313
          skip
          replace hw : pw D A s.heap H locs [wd_Mo cs mo mr (fun _ => none) mf274 md (gMo PG hq), fm 8 (fPg cs PG), fo 13 (fPr cs hq qr QO275 QF276 QA277) p0.toNatClampNeg, wd_Mpr cs (hq p0.toNatClampNeg) (qr p0.toNatClampNeg) (fun _ => QO275 p0.toNatClampNeg) qf294 qa295 (fun _ _ => none)] := hw
          refine lv_iload S.x S.b d_Mo_ownCall_265 (lv_at hl 1 rfl) ?_
          have hw := fpr_in (pr := [wd_Mo cs mo mr (fun _ => none) mf274 md (gMo PG hq), fm 8 (fPg cs PG)]) hw hi289
          obtain ⟨QO314, hu_QO314⟩ : ∃ y : Nat → Option Nat, y = va_up QO275 p0.toNatClampNeg ((fun _ => QO275 p0.toNatClampNeg) 0) := ⟨_, rfl⟩
          obtain ⟨QF315, hu_QF315⟩ : ∃ y : Nat → Nat → Int32, y = va_up QF276 p0.toNatClampNeg qf294 := ⟨_, rfl⟩
          obtain ⟨QA316, hu_QA316⟩ : ∃ y : Nat → Nat → Nat → Int32, y = va_up QA277 p0.toNatClampNeg qa295 := ⟨_, rfl⟩
          have hw : pw D A s.heap _ _ [wd_Mo cs mo mr (fun _ => none) mf274 md (gMo PG hq), fm 8 (fPg cs PG), fm 13 (fPr cs hq qr QO314 QF315 QA316)] := (by rw [hu_QO314, hu_QF315, hu_QA316]; exact hw)
          have hpx : PrX PG RR QO314 QF315 QA316 p0.toNatClampNeg := (by rw [hu_QO314, hu_QF315, hu_QA316]; exact PrX.up (hpr.px hi289) (show (0 ≤ (qf294 1).toInt ∧ (qf294 1).toInt ≤ 1) ∧ (0 ≤ (qf294 21).toInt ∧ (qf294 21).toInt ≤ 4) ∧ (0 ≤ (qf294 23).toInt ∧ (qf294 23).toInt ≤ 4) ∧ (0 ≤ (qf294 24).toInt ∧ (qf294 24).toInt ≤ 1000000) ∧ (0 ≤ (qf294 6).toInt ∧ (qf294 6).toInt ≤ 3) ∧ (0 ≤ (qf294 7).toInt ∧ (qf294 7).toInt ≤ 1) from by first | with_reducible rfl | with_reducible assumption | omega) (show (qf294 1).toInt = (QF276 p0.toNatClampNeg 1).toInt from by first | exact oz_1811ac7fe4 e299 | omega) (show (QF276 p0.toNatClampNeg 6).toInt ≤ (qf294 6).toInt from by first | exact oz_f9b42d1b56 e304 | omega))
          have hpd : PdT (PG j9) (RR p0.toNatClampNeg) (QF315 p0.toNatClampNeg) (QA316 p0.toNatClampNeg) := (by rw [hu_QF315, hu_QA316, va_up_s, va_up_s]; exact PoT.ans hpo (show (qf294 4).toInt = (QF p0.toNatClampNeg 4).toInt ∧ (qf294 5).toInt = (QF p0.toNatClampNeg 5).toInt ∧ (qf294 11).toInt = (QF p0.toNatClampNeg 11).toInt ∧ (qf294 12).toInt = (QF p0.toNatClampNeg 12).toInt ∧ (qf294 13).toInt = (QF p0.toNatClampNeg 13).toInt ∧ (qf294 14).toInt = (QF p0.toNatClampNeg 14).toInt from by first | with_reducible rfl | with_reducible assumption | omega) (show (qf294 10).toInt = (QF p0.toNatClampNeg 10).toInt - ((oslots p1.toInt).length : Int) + 1 from by first | with_reducible rfl | with_reducible assumption | omega) (show (qf294 24).toInt = (QF p0.toNatClampNeg 24).toInt ∨ (p1.toInt = 1 ∧ (qf294 24).toInt = (QF p0.toNatClampNeg 24).toInt + 1) from by first | with_reducible rfl | with_reducible assumption | omega) (fun i9 q9 => absurd (by rw [hkp.2.2 8 (by decide) (by decide)]) q9) (fun k9 a9 b9 c9 d9 => hkp.2.2 k9 b9 c9) (show NuU _ _ 9 ((QF p0.toNatClampNeg 10).toInt - ((oslots p1.toInt).length : Int)) _ from (by have q8 := e313; rw [show (z291.toInt) = (QF p0.toNatClampNeg 10).toInt - ((oslots p1.toInt).length : Int) by omega] at q8; exact q8)))
          have hko : KpO QO QF QO314 QF315 p0.toNatClampNeg := (by rw [hu_QO314, hu_QF315]; refine ⟨by rw [va_up_s]; first | done | exact hkp.1, ?_⟩; rw [va_up_s]; exact (show (qf294 1).toInt = (QF p0.toNatClampNeg 1).toInt ∧ (qf294 7).toInt = (QF p0.toNatClampNeg 7).toInt ∧ (qf294 11).toInt = (QF p0.toNatClampNeg 11).toInt from by first | with_reducible rfl | with_reducible assumption | omega))
          have hw : pw D A s.heap _ _ [wd_Mo cs mo mr (fun _ => none) mf274 md (gMo PG hq), fm 13 (fPr cs hq qr QO314 QF315 QA316), fm 8 (fPg cs PG)] := hw.sub [0, 2, 1] rfl rfl
          exact px_iret (v := 1) S hr rfl hlk hAe hw (Nat.le_of_ble_eq_true rfl) (Nat.le_of_ble_eq_true rfl) (⟨mf274, md, QO314, QF315, QA316, rfl, (show 0 ≤ (1 : Int) from by first | decide | omega), (show (1 : Int) ≤ 1 from by first | decide | omega), (show OwQ (1 : Int) (PrA PG RR QO314 QF315 QA316) (PrX PG RR QO314 QF315 QA316 p0.toNatClampNeg ∧ PdT (PG j9) (RR p0.toNatClampNeg) (QF315 p0.toNatClampNeg) (QA316 p0.toNatClampNeg)) from (Or.inr ⟨by omega, hpx, hpd⟩)), (show KpO QO QF QO314 QF315 p0.toNatClampNeg from hko), (show (mf274 0).toInt = (mf 0).toInt from by first | exact e282 | omega), (show (mf274 2).toInt = (mf 2).toInt from by first | exact e283 | omega), (show (mf274 3).toInt = (mf 3).toInt from by first | exact e284 | omega), (show (mf274 7).toInt = (mf 7).toInt from by first | exact e285 | omega), (show (mf274 8).toInt = (mf 8).toInt from by first | exact e286 | omega), (show (mf274 10).toInt = (mf 10).toInt from by first | exact e287 | omega)⟩) d_Mo_ownCall_267
      · simp only [List.mem_cons, List.not_mem_nil, or_false] at c52
        refine lv_aload_n S.x S.b d_Mo_ownCall_185 rfl (lv_at hl 5 rfl) ?_
        refine lv_iload_n S.x S.b d_Mo_ownCall_186 rfl (lv_at hl 6 rfl) ?_
        refine lv_iload S.x S.b d_Mo_ownCall_187 (lv_at hl 3 rfl) ?_
        have hw : pw D A s.heap _ _ [wd_Mo cs mo mr (fun _ => none) (upd mf 9 0) md (gMo PG hq), fm 8 (fPg cs PG), fm 13 (fPr cs hq qr QO QF QA)] := fm_back (pr := [wd_Mo cs mo mr (fun _ => none) (upd mf 9 0) md (gMo PG hq), fm 8 (fPg cs PG)]) (T := fPr cs hq qr QO QF QA) hw hi1
        have hw : pw D A s.heap _ _ [wd_Mo cs mo mr (fun _ => none) (upd mf 9 0) md (gMo PG hq), fm 13 (fPr cs hq qr QO QF QA), fm 8 (fPg cs PG)] := hw.sub [0, 2, 1] rfl rfl
        refine px_calli (pr := []) (px_runV (As := [.int p0, .int z4]) (rest := []) S (c_mo_waits l D cs RR mo mr md (upd mf 9 0) hq qr QO QF QA PG p0 z4  (show 0 ≤ p0.toInt from by first | exact g0 | omega) (show p0.toInt < 13 from by first | exact g1 | omega) hpr hpg _) hT (pr := []) (pcs := [wd_Mo cs mo mr (fun _ => none) (upd mf 9 0) md (gMo PG hq), fm 13 (fPr cs hq qr QO QF QA), fm 8 (fPg cs PG)]) hw px_X.tt (px_recv hT hw 0 0 rfl rfl rfl) m14_86 m14_83 m14_85 ms_16_6 m1_20 q_Mo_waits ⟨Nat.le_of_ble_eq_true rfl, Nat.le_of_ble_eq_true rfl⟩ hl.1 rfl (Nat.le_of_ble_eq_true rfl) d_Mo_ownCall_189 ⟨Nat.le_of_ble_eq_true rfl, Nat.le_of_ble_eq_true rfl⟩) hw hA (fun v326 p325 H locs hp325 hw => ?_)
        obtain ⟨mf321, QO322, QF323, QA324, rfl, e327, e328, e329, e330, e331, e332, e333, e334, e335, e336⟩ := hp325
        replace e327 : PrA PG RR QO322 QF323 QA324 := e327
        have hpr := e327
        replace e328 : KpP QO QF QA QO322 QF323 QA324 p0.toNatClampNeg := e328
        have hkp := hkp.tr e328
        replace e329 : (mf321 0).toInt = (mf 0).toInt := e329
        replace e330 : (mf321 2).toInt = (mf 2).toInt := e330
        replace e331 : (mf321 3).toInt = (mf 3).toInt := e331
        replace e332 : (mf321 7).toInt = (mf 7).toInt := e332
        replace e333 : (mf321 8).toInt = (mf 8).toInt := e333
        replace e334 : (mf321 10).toInt = (mf 10).toInt := e334
        replace e335 : 0 ≤ v326.toInt := e335
        replace e336 : v326.toInt ≤ 1 := e336
        replace hw : pw D A s.heap H locs [wd_Mo cs mo mr (fun _ => none) mf321 md (gMo PG hq), fm 13 (fPr cs hq qr QO322 QF323 QA324), fm 8 (fPg cs PG)] := hw
        have lv326 := Int32.le_toInt v326
        have uv326 := Int32.toInt_lt v326
        refine lv_istore (lv' := [(6, .int v326), (7, .int 1), (5, .int 0), (4, .int z4), (3, .ref (hq p0.toNatClampNeg)), (0, .ref mo), (1, .int p0), (2, .int p1)]) S.x S.b d_Mo_ownCall_192 hl (by decide) rfl (fun ls hl => ?_)
        refine lv_goto (tgt := 241) S.x S.b d_Mo_ownCall_194 (by decide) ?_
        refine lv_iload S.x S.b d_Mo_ownCall_241 (lv_at hl 0 rfl) ?_
        refine lv_if_eq (tgt := 265) S.x S.b d_Mo_ownCall_243 (by decide) (fun c337 => ?_) (fun c337 => ?_)
        · have nc337 : v326.toInt = (0 : Int) := (i_eq (x := v326) (y := 0)).mp c337
          refine lv_iload S.x S.b d_Mo_ownCall_265 (lv_at hl 0 rfl) ?_
          exact px_iret (v := v326) S hr (z_nar (by omega)) hlk hAe hw (Nat.le_of_ble_eq_true rfl) (Nat.le_of_ble_eq_true rfl) (⟨mf321, md, QO322, QF323, QA324, rfl, (show 0 ≤ v326.toInt from by first | exact e335 | omega), (show v326.toInt ≤ 1 from by first | exact e336 | omega), (show OwQ v326.toInt (PrA PG RR QO322 QF323 QA324) (PrX PG RR QO322 QF323 QA324 p0.toNatClampNeg ∧ PdT (PG j9) (RR p0.toNatClampNeg) (QF323 p0.toNatClampNeg) (QA324 p0.toNatClampNeg)) from (Or.inl ⟨by omega, hpr⟩)), (show KpO QO QF QO322 QF323 p0.toNatClampNeg from hkp.o), (show (mf321 0).toInt = (mf 0).toInt from by first | exact e329 | omega), (show (mf321 2).toInt = (mf 2).toInt from by first | exact e330 | omega), (show (mf321 3).toInt = (mf 3).toInt from by first | exact e331 | omega), (show (mf321 7).toInt = (mf 7).toInt from by first | exact e332 | omega), (show (mf321 8).toInt = (mf 8).toInt from by first | exact e333 | omega), (show (mf321 10).toInt = (mf 10).toInt from by first | exact e334 | omega)⟩) d_Mo_ownCall_267
        · have nc337 : ¬ v326.toInt = (0 : Int) := mt (i_eq (x := v326) (y := 0)).mpr c337
          refine lv_aload_n S.x S.b d_Mo_ownCall_246 rfl (lv_at hl 4 rfl) ?_
          have hkf := hkp.2.1; unfold KpF at hkf
          refine lv_aload_n S.x S.b d_Mo_ownCall_247 rfl (lv_at hl 4 rfl) ?_
          have hw : pw D A s.heap _ _ [wd_Mo cs mo mr (fun _ => none) mf321 md (gMo PG hq), fm 8 (fPg cs PG), fm 13 (fPr cs hq qr QO322 QF323 QA324)] := hw.sub [0, 2, 1] rfl rfl
          have hc338 := cl_nat (x := p0) (by first | exact g0 | omega)
          have hi338 : p0.toNatClampNeg < 13 := by first | exact hi1 | omega
          have hw : pw D A s.heap _ _ [wd_Mo cs mo mr (fun _ => none) mf321 md (gMo PG hq), fm 8 (fPg cs PG), fo 13 (fPr cs hq qr QO322 QF323 QA324) p0.toNatClampNeg, wd_Mpr cs (hq p0.toNatClampNeg) (qr p0.toNatClampNeg) (fun _ => QO322 p0.toNatClampNeg) (QF323 p0.toNatClampNeg) (QA324 p0.toNatClampNeg) (fun _ _ => none)] := fm_out (pr := [wd_Mo cs mo mr (fun _ => none) mf321 md (gMo PG hq), fm 8 (fPg cs PG)]) (T := fPr cs hq qr QO322 QF323 QA324) hw hi338
          have hps338 := hpr.1 p0.toNatClampNeg hi338
          have hpb338 := hps338.1
          unfold PsB at hpb338
          refine px_get S k_Mpr hT hw 3 0 10 (v := .int ((QF323 p0.toNatClampNeg) 10)) rfl rfl rfl (by decide) m11_1 d_Mo_ownCall_248 ?_
          refine lv_iload S.x S.b d_Mo_ownCall_251 (lv_at hl 1 rfl) ?_
          refine lv_isub S.x S.b d_Mo_ownCall_253 ?_
          have lr339 := Int32.le_toInt ((QF323 p0.toNatClampNeg) 10)
          have ur339 := Int32.toInt_lt ((QF323 p0.toNatClampNeg) 10)
          refine lv_topi (fun z340 ez340 => ?_)
          have tz340 : z340.toInt = (((QF323 p0.toNatClampNeg) 10).toInt - (1 : Int) + 2147483648) % 4294967296 - 2147483648 := by rw [ez340]; exact i_sub ((QF323 p0.toNatClampNeg) 10) 1
          have lz340 := Int32.le_toInt z340
          have uz340 := Int32.toInt_lt z340
          try replace tz340 : z340.toInt = ((QF323 p0.toNatClampNeg) 10).toInt - (1 : Int) := by omega
          refine px_put S k_Mpr hT hw 3 0 10 rfl rfl (by decide) m11_1 rfl rfl rfl (Nat.le_of_ble_eq_true rfl) d_Mo_ownCall_254 (w' := wd_Mpr cs (hq p0.toNatClampNeg) (qr p0.toNatClampNeg) (fun _ => QO322 p0.toNatClampNeg) (upd (QF323 p0.toNatClampNeg) 10 z340) (QA324 p0.toNatClampNeg) (fun _ _ => none)) (ps' := [wd_Mo cs mo mr (fun _ => none) mf321 md (gMo PG hq), fm 8 (fPg cs PG), fo 13 (fPr cs hq qr QO322 QF323 QA324) p0.toNatClampNeg, wd_Mpr cs (hq p0.toNatClampNeg) (qr p0.toNatClampNeg) (fun _ => QO322 p0.toNatClampNeg) (upd (QF323 p0.toNatClampNeg) 10 z340) (QA324 p0.toNatClampNeg) (fun _ _ => none)]) rfl rfl (fun H locs hw => ?_)
          refine lv_aload_n S.x S.b d_Mo_ownCall_257 rfl (lv_at hl 4 rfl) ?_
          refine lv_aload_n S.x S.b d_Mo_ownCall_258 rfl (lv_at hl 5 rfl) ?_
          refine px_get S k_Mo hT hw 0 0 9 (v := .int (mf321 9)) rfl rfl rfl (by decide) m11_87 d_Mo_ownCall_259 ?_
          refine px_callv (pr := [wd_Mo cs mo mr (fun _ => none) mf321 md (gMo PG hq), fm 8 (fPg cs PG), fo 13 (fPr cs hq qr QO322 QF323 QA324) p0.toNatClampNeg]) (px_runV (As := [.int (mf321 9)]) (rest := []) S (c_mq_give l D cs (hq p0.toNatClampNeg) (qr p0.toNatClampNeg) (fun _ _ => none) (fun _ => QO322 p0.toNatClampNeg) (upd (QF323 p0.toNatClampNeg) 10 z340) (QA324 p0.toNatClampNeg) (mf321 9)  (show 0 ≤ z340.toInt from by first | with_reducible rfl | with_reducible assumption | omega) (show z340.toInt < 62500 from by first | with_reducible rfl | with_reducible assumption | omega) _) hT (pr := [wd_Mo cs mo mr (fun _ => none) mf321 md (gMo PG hq), fm 8 (fPg cs PG), fo 13 (fPr cs hq qr QO322 QF323 QA324) p0.toNatClampNeg]) (pcs := [wd_Mpr cs (hq p0.toNatClampNeg) (qr p0.toNatClampNeg) (fun _ => QO322 p0.toNatClampNeg) (upd (QF323 p0.toNatClampNeg) 10 z340) (QA324 p0.toNatClampNeg) (fun _ _ => none)]) hw px_X.tt (px_recv hT hw 3 0 rfl rfl rfl) m13_161 m14_111 m13_159 m13_160 m1_22 q_Mpr_give ⟨Nat.le_of_ble_eq_true rfl, Nat.le_of_ble_eq_true rfl⟩ hl.1 rfl (Nat.le_of_ble_eq_true rfl) d_Mo_ownCall_262 ⟨Nat.le_of_ble_eq_true rfl, Nat.le_of_ble_eq_true rfl⟩) hw hA (fun p345 H locs hp345 hw => ?_)
          obtain ⟨qf343, qa344, rfl, e347, e348, e349, e350, e351, e352, e353, e354, e355, e356, e357, e358, e359, e360, e361, e362⟩ := hp345
          replace e347 : (qf343 10).toInt = z340.toInt + 1 := e347
          replace e348 : (qf343 1).toInt = ((QF323 p0.toNatClampNeg) 1).toInt := e348
          replace e349 : (qf343 2).toInt = ((QF323 p0.toNatClampNeg) 2).toInt := e349
          replace e350 : (qf343 3).toInt = ((QF323 p0.toNatClampNeg) 3).toInt := e350
          replace e351 : (qf343 4).toInt = ((QF323 p0.toNatClampNeg) 4).toInt := e351
          replace e352 : (qf343 5).toInt = ((QF323 p0.toNatClampNeg) 5).toInt := e352
          replace e353 : (qf343 6).toInt = ((QF323 p0.toNatClampNeg) 6).toInt := e353
          replace e354 : (qf343 7).toInt = ((QF323 p0.toNatClampNeg) 7).toInt := e354
          replace e355 : (qf343 11).toInt = ((QF323 p0.toNatClampNeg) 11).toInt := e355
          replace e356 : (qf343 12).toInt = ((QF323 p0.toNatClampNeg) 12).toInt := e356
          replace e357 : (qf343 13).toInt = ((QF323 p0.toNatClampNeg) 13).toInt := e357
          replace e358 : (qf343 14).toInt = ((QF323 p0.toNatClampNeg) 14).toInt := e358
          replace e359 : (qf343 21).toInt = ((QF323 p0.toNatClampNeg) 21).toInt := e359
          replace e360 : (qf343 23).toInt = ((QF323 p0.toNatClampNeg) 23).toInt := e360
          replace e361 : (qf343 24).toInt = ((QF323 p0.toNatClampNeg) 24).toInt := e361
          replace e362 : NuU (QA324 p0.toNatClampNeg) qa344 9 z340.toInt (mf321 9) := e362
          skip
          replace hw : pw D A s.heap H locs [wd_Mo cs mo mr (fun _ => none) mf321 md (gMo PG hq), fm 8 (fPg cs PG), fo 13 (fPr cs hq qr QO322 QF323 QA324) p0.toNatClampNeg, wd_Mpr cs (hq p0.toNatClampNeg) (qr p0.toNatClampNeg) (fun _ => QO322 p0.toNatClampNeg) qf343 qa344 (fun _ _ => none)] := hw
          refine lv_iload S.x S.b d_Mo_ownCall_265 (lv_at hl 0 rfl) ?_
          have hw := fpr_in (pr := [wd_Mo cs mo mr (fun _ => none) mf321 md (gMo PG hq), fm 8 (fPg cs PG)]) hw hi338
          obtain ⟨QO363, hu_QO363⟩ : ∃ y : Nat → Option Nat, y = va_up QO322 p0.toNatClampNeg ((fun _ => QO322 p0.toNatClampNeg) 0) := ⟨_, rfl⟩
          obtain ⟨QF364, hu_QF364⟩ : ∃ y : Nat → Nat → Int32, y = va_up QF323 p0.toNatClampNeg qf343 := ⟨_, rfl⟩
          obtain ⟨QA365, hu_QA365⟩ : ∃ y : Nat → Nat → Nat → Int32, y = va_up QA324 p0.toNatClampNeg qa344 := ⟨_, rfl⟩
          have hw : pw D A s.heap _ _ [wd_Mo cs mo mr (fun _ => none) mf321 md (gMo PG hq), fm 8 (fPg cs PG), fm 13 (fPr cs hq qr QO363 QF364 QA365)] := (by rw [hu_QO363, hu_QF364, hu_QA365]; exact hw)
          have hpx : PrX PG RR QO363 QF364 QA365 p0.toNatClampNeg := (by rw [hu_QO363, hu_QF364, hu_QA365]; exact PrX.up (hpr.px hi338) (show (0 ≤ (qf343 1).toInt ∧ (qf343 1).toInt ≤ 1) ∧ (0 ≤ (qf343 21).toInt ∧ (qf343 21).toInt ≤ 4) ∧ (0 ≤ (qf343 23).toInt ∧ (qf343 23).toInt ≤ 4) ∧ (0 ≤ (qf343 24).toInt ∧ (qf343 24).toInt ≤ 1000000) ∧ (0 ≤ (qf343 6).toInt ∧ (qf343 6).toInt ≤ 3) ∧ (0 ≤ (qf343 7).toInt ∧ (qf343 7).toInt ≤ 1) from by first | with_reducible rfl | with_reducible assumption | omega) (show (qf343 1).toInt = (QF323 p0.toNatClampNeg 1).toInt from by first | exact oz_1811ac7fe4 e348 | omega) (show (QF323 p0.toNatClampNeg 6).toInt ≤ (qf343 6).toInt from by first | exact oz_f9b42d1b56 e353 | omega))
          have hpd : PdT (PG j9) (RR p0.toNatClampNeg) (QF364 p0.toNatClampNeg) (QA365 p0.toNatClampNeg) := (by rw [hu_QF364, hu_QA365, va_up_s, va_up_s]; exact PoT.ans hpo (show (qf343 4).toInt = (QF p0.toNatClampNeg 4).toInt ∧ (qf343 5).toInt = (QF p0.toNatClampNeg 5).toInt ∧ (qf343 11).toInt = (QF p0.toNatClampNeg 11).toInt ∧ (qf343 12).toInt = (QF p0.toNatClampNeg 12).toInt ∧ (qf343 13).toInt = (QF p0.toNatClampNeg 13).toInt ∧ (qf343 14).toInt = (QF p0.toNatClampNeg 14).toInt from by first | with_reducible rfl | with_reducible assumption | omega) (show (qf343 10).toInt = (QF p0.toNatClampNeg 10).toInt - ((oslots p1.toInt).length : Int) + 1 from by first | with_reducible rfl | with_reducible assumption | omega) (show (qf343 24).toInt = (QF p0.toNatClampNeg 24).toInt ∨ (p1.toInt = 1 ∧ (qf343 24).toInt = (QF p0.toNatClampNeg 24).toInt + 1) from by first | with_reducible rfl | with_reducible assumption | omega) (fun i9 q9 => absurd (by rw [hkp.2.2 8 (by decide) (by decide)]) q9) (fun k9 a9 b9 c9 d9 => hkp.2.2 k9 b9 c9) (show NuU _ _ 9 ((QF p0.toNatClampNeg 10).toInt - ((oslots p1.toInt).length : Int)) _ from (by have q8 := e362; rw [show (z340.toInt) = (QF p0.toNatClampNeg 10).toInt - ((oslots p1.toInt).length : Int) by omega] at q8; exact q8)))
          have hko : KpO QO QF QO363 QF364 p0.toNatClampNeg := (by rw [hu_QO363, hu_QF364]; refine ⟨by rw [va_up_s]; first | done | exact hkp.1, ?_⟩; rw [va_up_s]; exact (show (qf343 1).toInt = (QF p0.toNatClampNeg 1).toInt ∧ (qf343 7).toInt = (QF p0.toNatClampNeg 7).toInt ∧ (qf343 11).toInt = (QF p0.toNatClampNeg 11).toInt from by first | with_reducible rfl | with_reducible assumption | omega))
          have hw : pw D A s.heap _ _ [wd_Mo cs mo mr (fun _ => none) mf321 md (gMo PG hq), fm 13 (fPr cs hq qr QO363 QF364 QA365), fm 8 (fPg cs PG)] := hw.sub [0, 2, 1] rfl rfl
          exact px_iret (v := v326) S hr (z_nar (by omega)) hlk hAe hw (Nat.le_of_ble_eq_true rfl) (Nat.le_of_ble_eq_true rfl) (⟨mf321, md, QO363, QF364, QA365, rfl, (show 0 ≤ v326.toInt from by first | exact e335 | omega), (show v326.toInt ≤ 1 from by first | exact e336 | omega), (show OwQ v326.toInt (PrA PG RR QO363 QF364 QA365) (PrX PG RR QO363 QF364 QA365 p0.toNatClampNeg ∧ PdT (PG j9) (RR p0.toNatClampNeg) (QF364 p0.toNatClampNeg) (QA365 p0.toNatClampNeg)) from (Or.inr ⟨by omega, hpx, hpd⟩)), (show KpO QO QF QO363 QF364 p0.toNatClampNeg from hko), (show (mf321 0).toInt = (mf 0).toInt from by first | exact e329 | omega), (show (mf321 2).toInt = (mf 2).toInt from by first | exact e330 | omega), (show (mf321 3).toInt = (mf 3).toInt from by first | exact e331 | omega), (show (mf321 7).toInt = (mf 7).toInt from by first | exact e332 | omega), (show (mf321 8).toInt = (mf 8).toInt from by first | exact e333 | omega), (show (mf321 10).toInt = (mf 10).toInt from by first | exact e334 | omega)⟩) d_Mo_ownCall_267
      · simp only [List.mem_cons, List.not_mem_nil, or_false] at c52
        refine lv_aload_n S.x S.b d_Mo_ownCall_197 rfl (lv_at hl 5 rfl) ?_
        refine lv_iload_n S.x S.b d_Mo_ownCall_198 rfl (lv_at hl 6 rfl) ?_
        refine lv_iload_n S.x S.b d_Mo_ownCall_199 rfl (lv_at hl 7 rfl) ?_
        refine lv_bipush (v := 7) S.x S.b d_Mo_ownCall_200 (by decide) ?_
        refine lv_icmp_ne (tgt := 209) S.x S.b d_Mo_ownCall_202 (by decide) (fun c366 => ?_) (fun c366 => ?_)
        · have nc366 : ¬ p1.toInt = (7 : Int) := mt (i_eq (x := p1) (y := 7)).mpr c366
          exfalso
          omega
        · have nc366 : p1.toInt = (7 : Int) := (i_eq (x := p1) (y := 7)).mp c366
          exfalso
          omega
  · have nc5 : ¬ ((QF p0.toNatClampNeg) 10).toInt ≤ (1 : Int) := mt (i_le (x := ((QF p0.toNatClampNeg) 10)) (y := 1)).mpr c5
    refine lv_aload_n S.x S.b d_Mo_ownCall_28 rfl (lv_at hl 1 rfl) ?_
    refine px_get S k_Mpr hT hw 3 0 9 (v := .ref ((qr p0.toNatClampNeg) 9)) rfl rfl rfl (by decide) m10_239 d_Mo_ownCall_29 ?_
    refine lv_aload_n S.x S.b d_Mo_ownCall_32 rfl (lv_at hl 1 rfl) ?_
    refine px_get S k_Mpr hT hw 3 0 10 (v := .int ((QF p0.toNatClampNeg) 10)) rfl rfl rfl (by decide) m11_1 d_Mo_ownCall_33 ?_
    refine lv_iconst (v := 2) S.x S.b d_Mo_ownCall_36 (by decide) ?_
    refine lv_isub S.x S.b d_Mo_ownCall_37 ?_
    have lr367 := Int32.le_toInt ((QF p0.toNatClampNeg) 10)
    have ur367 := Int32.toInt_lt ((QF p0.toNatClampNeg) 10)
    refine lv_topi (fun z368 ez368 => ?_)
    have tz368 : z368.toInt = (((QF p0.toNatClampNeg) 10).toInt - (2 : Int) + 2147483648) % 4294967296 - 2147483648 := by rw [ez368]; exact i_sub ((QF p0.toNatClampNeg) 10) 2
    have lz368 := Int32.le_toInt z368
    have uz368 := Int32.toInt_lt z368
    try replace tz368 : z368.toInt = ((QF p0.toNatClampNeg) 10).toInt - (2 : Int) := by omega
    refine px_iald S hT hw 3 2 (n := 62500) (f := ((QA p0.toNatClampNeg) 9)) rfl (ga_Mpr_9 _ _ _ _ _ _ _) (x := z368) (vp_in_iff.mpr (by first | exact oz_31acf4d49a tz368 nc5 hpn.2.1 | (constructor <;> omega))) d_Mo_ownCall_38 ?_
    refine lv_topi (fun z369 ez369 => ?_)
    have lz369 := Int32.le_toInt z369
    have uz369 := Int32.toInt_lt z369
    have hx5 : z369 = (QA p0.toNatClampNeg) 9 ((QF p0.toNatClampNeg 10).toInt - 2).toNat := at_k (qa := QA p0.toNatClampNeg) (k := 9) ez369 (by omega) (by omega)
    refine lv_goto (tgt := 43) S.x S.b d_Mo_ownCall_39 (by decide) ?_
    refine lv_istore (lv' := [(5, .int z369), (4, .int z4), (3, .ref (hq p0.toNatClampNeg)), (0, .ref mo), (1, .int p0), (2, .int p1)]) S.x S.b d_Mo_ownCall_43 hl (by decide) rfl (fun ls hl => ?_)
    refine lv_aload_n S.x S.b d_Mo_ownCall_45 rfl (lv_at hl 3 rfl) ?_
    refine lv_iconst (v := 0) S.x S.b d_Mo_ownCall_46 (by decide) ?_
    refine px_put S k_Mo hT hw 0 0 9 rfl rfl (by decide) m11_87 rfl rfl rfl (Nat.le_of_ble_eq_true rfl) d_Mo_ownCall_47 (w' := wd_Mo cs mo mr (fun _ => none) (upd mf 9 0) md (gMo PG hq)) (ps' := [wd_Mo cs mo mr (fun _ => none) (upd mf 9 0) md (gMo PG hq), fm 8 (fPg cs PG), fo 13 (fPr cs hq qr QO QF QA) p0.toNatClampNeg, wd_Mpr cs (hq p0.toNatClampNeg) (qr p0.toNatClampNeg) (fun _ => QO p0.toNatClampNeg) (QF p0.toNatClampNeg) (QA p0.toNatClampNeg) (fun _ _ => none)]) rfl rfl (fun H locs hw => ?_)
    refine lv_iconst (v := 1) S.x S.b d_Mo_ownCall_50 (by decide) ?_
    refine lv_istore (lv' := [(6, .int 1), (5, .int z369), (4, .int z4), (3, .ref (hq p0.toNatClampNeg)), (0, .ref mo), (1, .int p0), (2, .int p1)]) S.x S.b d_Mo_ownCall_51 hl (by decide) rfl (fun ls hl => ?_)
    refine lv_iconst (v := 1) S.x S.b d_Mo_ownCall_53 (by decide) ?_
    refine lv_istore (lv' := [(7, .int 1), (6, .int 1), (5, .int z369), (4, .int z4), (3, .ref (hq p0.toNatClampNeg)), (0, .ref mo), (1, .int p0), (2, .int p1)]) S.x S.b d_Mo_ownCall_54 hl (by decide) rfl (fun ls hl => ?_)
    refine lv_iload_n S.x S.b d_Mo_ownCall_56 rfl (lv_at hl 7 rfl) ?_
    refine px_tableD S (dt := 234) [(108, [0]), (120, [1]), (129, [2]), (146, [3]), (158, [4]), (170, [5]), (185, [6]), (197, [7, 8])] d_Mo_ownCall_57 (by decide +kernel) (by decide) (by decide +kernel) ?_ ?_
    · intro hdf_57
      refine lv_aload_n S.x S.b d_Mo_ownCall_234 rfl (lv_at hl 4 rfl) ?_
      refine lv_iconst (v := 1) S.x S.b d_Mo_ownCall_235 (by decide) ?_
      refine lv_iload S.x S.b d_Mo_ownCall_236 (lv_at hl 3 rfl) ?_
      refine px_callv (pr := [wd_Mo cs mo mr (fun _ => none) (upd mf 9 0) md (gMo PG hq), fm 8 (fPg cs PG), fo 13 (fPr cs hq qr QO QF QA) p0.toNatClampNeg]) (px_runV (As := [.int 1, .int z4]) (rest := []) S (c_mq_end l D cs (hq p0.toNatClampNeg) (qr p0.toNatClampNeg) (fun _ _ => none) (fun _ => QO p0.toNatClampNeg) (QA p0.toNatClampNeg) (QF p0.toNatClampNeg) 1 z4   _) hT (pr := [wd_Mo cs mo mr (fun _ => none) (upd mf 9 0) md (gMo PG hq), fm 8 (fPg cs PG), fo 13 (fPr cs hq qr QO QF QA) p0.toNatClampNeg]) (pcs := [wd_Mpr cs (hq p0.toNatClampNeg) (qr p0.toNatClampNeg) (fun _ => QO p0.toNatClampNeg) (QF p0.toNatClampNeg) (QA p0.toNatClampNeg) (fun _ _ => none)]) hw px_X.tt (px_recv hT hw 3 0 rfl rfl rfl) m13_177 m14_35 m13_175 m13_176 m1_22 q_Mpr_end ⟨Nat.le_of_ble_eq_true rfl, Nat.le_of_ble_eq_true rfl⟩ hl.1 rfl (Nat.le_of_ble_eq_true rfl) d_Mo_ownCall_238 ⟨Nat.le_of_ble_eq_true rfl, Nat.le_of_ble_eq_true rfl⟩) hw hA (fun p372 H locs hp372 hw => ?_)
      obtain ⟨qf371, rfl, e374, e375, e376, e377, e378, e379, e380, e381, e382, e383, e384, e385, e386, e387⟩ := hp372
      replace e374 : (qf371 2).toInt = (1 : Int) := e374
      replace e375 : (qf371 1).toInt = ((QF p0.toNatClampNeg) 1).toInt := e375
      replace e376 : (qf371 4).toInt = ((QF p0.toNatClampNeg) 4).toInt := e376
      replace e377 : (qf371 5).toInt = ((QF p0.toNatClampNeg) 5).toInt := e377
      replace e378 : (qf371 6).toInt = ((QF p0.toNatClampNeg) 6).toInt := e378
      replace e379 : (qf371 7).toInt = ((QF p0.toNatClampNeg) 7).toInt := e379
      replace e380 : (qf371 10).toInt = ((QF p0.toNatClampNeg) 10).toInt := e380
      replace e381 : (qf371 11).toInt = ((QF p0.toNatClampNeg) 11).toInt := e381
      replace e382 : (qf371 12).toInt = ((QF p0.toNatClampNeg) 12).toInt := e382
      replace e383 : (qf371 13).toInt = ((QF p0.toNatClampNeg) 13).toInt := e383
      replace e384 : (qf371 14).toInt = ((QF p0.toNatClampNeg) 14).toInt := e384
      replace e385 : (qf371 21).toInt = ((QF p0.toNatClampNeg) 21).toInt := e385
      replace e386 : (qf371 23).toInt = ((QF p0.toNatClampNeg) 23).toInt := e386
      replace e387 : (qf371 24).toInt = ((QF p0.toNatClampNeg) 24).toInt := e387
      replace hw : pw D A s.heap H locs [wd_Mo cs mo mr (fun _ => none) (upd mf 9 0) md (gMo PG hq), fm 8 (fPg cs PG), fo 13 (fPr cs hq qr QO QF QA) p0.toNatClampNeg, wd_Mpr cs (hq p0.toNatClampNeg) (qr p0.toNatClampNeg) (fun _ => QO p0.toNatClampNeg) qf371 (QA p0.toNatClampNeg) (fun _ _ => none)] := hw
      refine lv_iload S.x S.b d_Mo_ownCall_241 (lv_at hl 1 rfl) ?_
      refine lv_if_eq (tgt := 265) S.x S.b d_Mo_ownCall_243 (by decide) (fun c388 => ?_) (fun c388 => ?_)
      · exact absurd c388 (by decide)
      ·
        refine lv_aload_n S.x S.b d_Mo_ownCall_246 rfl (lv_at hl 4 rfl) ?_
        have hkf := hkp.2.1; unfold KpF at hkf
        refine lv_aload_n S.x S.b d_Mo_ownCall_247 rfl (lv_at hl 4 rfl) ?_
        refine px_get S k_Mpr hT hw 3 0 10 (v := .int (qf371 10)) rfl rfl rfl (by decide) m11_1 d_Mo_ownCall_248 ?_
        refine lv_iload S.x S.b d_Mo_ownCall_251 (lv_at hl 0 rfl) ?_
        refine lv_isub S.x S.b d_Mo_ownCall_253 ?_
        have lr389 := Int32.le_toInt (qf371 10)
        have ur389 := Int32.toInt_lt (qf371 10)
        refine lv_topi (fun z390 ez390 => ?_)
        have tz390 : z390.toInt = ((qf371 10).toInt - (1 : Int) + 2147483648) % 4294967296 - 2147483648 := by rw [ez390]; exact i_sub (qf371 10) 1
        have lz390 := Int32.le_toInt z390
        have uz390 := Int32.toInt_lt z390
        try replace tz390 : z390.toInt = (qf371 10).toInt - (1 : Int) := by omega
        refine px_put S k_Mpr hT hw 3 0 10 rfl rfl (by decide) m11_1 rfl rfl rfl (Nat.le_of_ble_eq_true rfl) d_Mo_ownCall_254 (w' := wd_Mpr cs (hq p0.toNatClampNeg) (qr p0.toNatClampNeg) (fun _ => QO p0.toNatClampNeg) (upd qf371 10 z390) (QA p0.toNatClampNeg) (fun _ _ => none)) (ps' := [wd_Mo cs mo mr (fun _ => none) (upd mf 9 0) md (gMo PG hq), fm 8 (fPg cs PG), fo 13 (fPr cs hq qr QO QF QA) p0.toNatClampNeg, wd_Mpr cs (hq p0.toNatClampNeg) (qr p0.toNatClampNeg) (fun _ => QO p0.toNatClampNeg) (upd qf371 10 z390) (QA p0.toNatClampNeg) (fun _ _ => none)]) rfl rfl (fun H locs hw => ?_)
        refine lv_aload_n S.x S.b d_Mo_ownCall_257 rfl (lv_at hl 4 rfl) ?_
        refine lv_aload_n S.x S.b d_Mo_ownCall_258 rfl (lv_at hl 5 rfl) ?_
        refine px_get S k_Mo hT hw 0 0 9 (v := .int 0) rfl rfl rfl (by decide) m11_87 d_Mo_ownCall_259 ?_
        refine px_callv (pr := [wd_Mo cs mo mr (fun _ => none) (upd mf 9 0) md (gMo PG hq), fm 8 (fPg cs PG), fo 13 (fPr cs hq qr QO QF QA) p0.toNatClampNeg]) (px_runV (As := [.int 0]) (rest := []) S (c_mq_give l D cs (hq p0.toNatClampNeg) (qr p0.toNatClampNeg) (fun _ _ => none) (fun _ => QO p0.toNatClampNeg) (upd qf371 10 z390) (QA p0.toNatClampNeg) 0  (show 0 ≤ z390.toInt from by first | exact oz_89fa327c54 tz390 e380 nc5 | omega) (show z390.toInt < 62500 from by first | exact oz_379d4e28b3 tz390 e380 hpn.2.1 | omega) _) hT (pr := [wd_Mo cs mo mr (fun _ => none) (upd mf 9 0) md (gMo PG hq), fm 8 (fPg cs PG), fo 13 (fPr cs hq qr QO QF QA) p0.toNatClampNeg]) (pcs := [wd_Mpr cs (hq p0.toNatClampNeg) (qr p0.toNatClampNeg) (fun _ => QO p0.toNatClampNeg) (upd qf371 10 z390) (QA p0.toNatClampNeg) (fun _ _ => none)]) hw px_X.tt (px_recv hT hw 3 0 rfl rfl rfl) m13_161 m14_111 m13_159 m13_160 m1_22 q_Mpr_give ⟨Nat.le_of_ble_eq_true rfl, Nat.le_of_ble_eq_true rfl⟩ hl.1 rfl (Nat.le_of_ble_eq_true rfl) d_Mo_ownCall_262 ⟨Nat.le_of_ble_eq_true rfl, Nat.le_of_ble_eq_true rfl⟩) hw hA (fun p395 H locs hp395 hw => ?_)
        obtain ⟨qf393, qa394, rfl, e397, e398, e399, e400, e401, e402, e403, e404, e405, e406, e407, e408, e409, e410, e411, e412⟩ := hp395
        replace e397 : (qf393 10).toInt = z390.toInt + 1 := e397
        replace e398 : (qf393 1).toInt = (qf371 1).toInt := e398
        replace e399 : (qf393 2).toInt = (qf371 2).toInt := e399
        replace e400 : (qf393 3).toInt = (qf371 3).toInt := e400
        replace e401 : (qf393 4).toInt = (qf371 4).toInt := e401
        replace e402 : (qf393 5).toInt = (qf371 5).toInt := e402
        replace e403 : (qf393 6).toInt = (qf371 6).toInt := e403
        replace e404 : (qf393 7).toInt = (qf371 7).toInt := e404
        replace e405 : (qf393 11).toInt = (qf371 11).toInt := e405
        replace e406 : (qf393 12).toInt = (qf371 12).toInt := e406
        replace e407 : (qf393 13).toInt = (qf371 13).toInt := e407
        replace e408 : (qf393 14).toInt = (qf371 14).toInt := e408
        replace e409 : (qf393 21).toInt = (qf371 21).toInt := e409
        replace e410 : (qf393 23).toInt = (qf371 23).toInt := e410
        replace e411 : (qf393 24).toInt = (qf371 24).toInt := e411
        replace e412 : NuU (QA p0.toNatClampNeg) qa394 9 z390.toInt (0 : Int32) := e412
        skip
        replace hw : pw D A s.heap H locs [wd_Mo cs mo mr (fun _ => none) (upd mf 9 0) md (gMo PG hq), fm 8 (fPg cs PG), fo 13 (fPr cs hq qr QO QF QA) p0.toNatClampNeg, wd_Mpr cs (hq p0.toNatClampNeg) (qr p0.toNatClampNeg) (fun _ => QO p0.toNatClampNeg) qf393 qa394 (fun _ _ => none)] := hw
        refine lv_iload S.x S.b d_Mo_ownCall_265 (lv_at hl 1 rfl) ?_
        have hw := fpr_in (pr := [wd_Mo cs mo mr (fun _ => none) (upd mf 9 0) md (gMo PG hq), fm 8 (fPg cs PG)]) hw hi1
        obtain ⟨QO413, hu_QO413⟩ : ∃ y : Nat → Option Nat, y = va_up QO p0.toNatClampNeg ((fun _ => QO p0.toNatClampNeg) 0) := ⟨_, rfl⟩
        obtain ⟨QF414, hu_QF414⟩ : ∃ y : Nat → Nat → Int32, y = va_up QF p0.toNatClampNeg qf393 := ⟨_, rfl⟩
        obtain ⟨QA415, hu_QA415⟩ : ∃ y : Nat → Nat → Nat → Int32, y = va_up QA p0.toNatClampNeg qa394 := ⟨_, rfl⟩
        have hw : pw D A s.heap _ _ [wd_Mo cs mo mr (fun _ => none) (upd mf 9 0) md (gMo PG hq), fm 8 (fPg cs PG), fm 13 (fPr cs hq qr QO413 QF414 QA415)] := (by rw [hu_QO413, hu_QF414, hu_QA415]; exact hw)
        have hpx : PrX PG RR QO413 QF414 QA415 p0.toNatClampNeg := (by rw [hu_QO413, hu_QF414, hu_QA415]; exact PrX.up (hpr.px hi1) (show (0 ≤ (qf393 1).toInt ∧ (qf393 1).toInt ≤ 1) ∧ (0 ≤ (qf393 21).toInt ∧ (qf393 21).toInt ≤ 4) ∧ (0 ≤ (qf393 23).toInt ∧ (qf393 23).toInt ≤ 4) ∧ (0 ≤ (qf393 24).toInt ∧ (qf393 24).toInt ≤ 1000000) ∧ (0 ≤ (qf393 6).toInt ∧ (qf393 6).toInt ≤ 3) ∧ (0 ≤ (qf393 7).toInt ∧ (qf393 7).toInt ≤ 1) from by first | with_reducible rfl | with_reducible assumption | omega) (show (qf393 1).toInt = (QF p0.toNatClampNeg 1).toInt from by first | exact oz_1687f4cc65 e375 e398 | omega) (show (QF p0.toNatClampNeg 6).toInt ≤ (qf393 6).toInt from by first | exact oz_d01699e821 e378 e403 | omega))
        have hpd : PdT (PG j9) (RR p0.toNatClampNeg) (QF414 p0.toNatClampNeg) (QA415 p0.toNatClampNeg) := (by rw [hu_QF414, hu_QA415, va_up_s, va_up_s]; exact PoT.ans hpo (show (qf393 4).toInt = (QF p0.toNatClampNeg 4).toInt ∧ (qf393 5).toInt = (QF p0.toNatClampNeg 5).toInt ∧ (qf393 11).toInt = (QF p0.toNatClampNeg 11).toInt ∧ (qf393 12).toInt = (QF p0.toNatClampNeg 12).toInt ∧ (qf393 13).toInt = (QF p0.toNatClampNeg 13).toInt ∧ (qf393 14).toInt = (QF p0.toNatClampNeg 14).toInt from by first | exact oz_e3309c85a3 e376 e401 e377 e402 e381 e405 e382 e406 e383 e407 e384 e408 | omega) (show (qf393 10).toInt = (QF p0.toNatClampNeg 10).toInt - ((oslots p1.toInt).length : Int) + 1 from by first | with_reducible rfl | with_reducible assumption | omega) (show (qf393 24).toInt = (QF p0.toNatClampNeg 24).toInt ∨ (p1.toInt = 1 ∧ (qf393 24).toInt = (QF p0.toNatClampNeg 24).toInt + 1) from by first | with_reducible rfl | with_reducible assumption | omega) (fun i9 q9 => absurd (by rw [hkp.2.2 8 (by decide) (by decide)]) q9) (fun k9 a9 b9 c9 d9 => hkp.2.2 k9 b9 c9) (show NuU _ _ 9 ((QF p0.toNatClampNeg 10).toInt - ((oslots p1.toInt).length : Int)) _ from (by have q8 := e412; rw [show (z390.toInt) = (QF p0.toNatClampNeg 10).toInt - ((oslots p1.toInt).length : Int) by omega] at q8; exact q8)))
        have hko : KpO QO QF QO413 QF414 p0.toNatClampNeg := (by rw [hu_QO413, hu_QF414]; refine ⟨by rw [va_up_s]; first | done | exact hkp.1, ?_⟩; rw [va_up_s]; exact (show (qf393 1).toInt = (QF p0.toNatClampNeg 1).toInt ∧ (qf393 7).toInt = (QF p0.toNatClampNeg 7).toInt ∧ (qf393 11).toInt = (QF p0.toNatClampNeg 11).toInt from by first | exact oz_c24f474a2b e375 e398 e379 e404 e381 e405 | omega))
        have hw : pw D A s.heap _ _ [wd_Mo cs mo mr (fun _ => none) (upd mf 9 0) md (gMo PG hq), fm 13 (fPr cs hq qr QO413 QF414 QA415), fm 8 (fPg cs PG)] := hw.sub [0, 2, 1] rfl rfl
        exact px_iret (v := 1) S hr rfl hlk hAe hw (Nat.le_of_ble_eq_true rfl) (Nat.le_of_ble_eq_true rfl) (⟨(upd mf 9 0), md, QO413, QF414, QA415, rfl, (show 0 ≤ (1 : Int) from by first | decide | omega), (show (1 : Int) ≤ 1 from by first | decide | omega), (show OwQ (1 : Int) (PrA PG RR QO413 QF414 QA415) (PrX PG RR QO413 QF414 QA415 p0.toNatClampNeg ∧ PdT (PG j9) (RR p0.toNatClampNeg) (QF414 p0.toNatClampNeg) (QA415 p0.toNatClampNeg)) from (Or.inr ⟨by omega, hpx, hpd⟩)), (show KpO QO QF QO413 QF414 p0.toNatClampNeg from hko), (show (mf 0).toInt = (mf 0).toInt from rfl), (show (mf 2).toInt = (mf 2).toInt from rfl), (show (mf 3).toInt = (mf 3).toInt from rfl), (show (mf 7).toInt = (mf 7).toInt from rfl), (show (mf 8).toInt = (mf 8).toInt from rfl), (show (mf 10).toInt = (mf 10).toInt from rfl)⟩) d_Mo_ownCall_267
    · refine List.forall_mem_cons.mpr ⟨fun c416 => ?_, List.forall_mem_cons.mpr ⟨fun c416 => ?_, List.forall_mem_cons.mpr ⟨fun c416 => ?_, List.forall_mem_cons.mpr ⟨fun c416 => ?_, List.forall_mem_cons.mpr ⟨fun c416 => ?_, List.forall_mem_cons.mpr ⟨fun c416 => ?_, List.forall_mem_cons.mpr ⟨fun c416 => ?_, List.forall_mem_cons.mpr ⟨fun c416 => ?_, fun _ h => absurd h List.not_mem_nil⟩⟩⟩⟩⟩⟩⟩⟩
      · simp only [List.mem_cons, List.not_mem_nil, or_false] at c416
        refine lv_aload_n S.x S.b d_Mo_ownCall_108 rfl (lv_at hl 5 rfl) ?_
        refine lv_iload S.x S.b d_Mo_ownCall_109 (lv_at hl 3 rfl) ?_
        refine px_put S k_Mo hT hw 0 0 9 rfl rfl (by decide) m11_87 rfl rfl rfl (Nat.le_of_ble_eq_true rfl) d_Mo_ownCall_111 (w' := wd_Mo cs mo mr (fun _ => none) (upd mf 9 z4) md (gMo PG hq)) (ps' := [wd_Mo cs mo mr (fun _ => none) (upd mf 9 z4) md (gMo PG hq), fm 8 (fPg cs PG), fo 13 (fPr cs hq qr QO QF QA) p0.toNatClampNeg, wd_Mpr cs (hq p0.toNatClampNeg) (qr p0.toNatClampNeg) (fun _ => QO p0.toNatClampNeg) (QF p0.toNatClampNeg) (QA p0.toNatClampNeg) (fun _ _ => none)]) rfl rfl (fun H locs hw => ?_)
        refine lv_iconst (v := 2) S.x S.b d_Mo_ownCall_114 (by decide) ?_
        refine lv_istore (lv' := [(7, .int 2), (6, .int 1), (5, .int z369), (4, .int z4), (3, .ref (hq p0.toNatClampNeg)), (0, .ref mo), (1, .int p0), (2, .int p1)]) S.x S.b d_Mo_ownCall_115 hl (by decide) rfl (fun ls hl => ?_)
        refine lv_goto (tgt := 241) S.x S.b d_Mo_ownCall_117 (by decide) ?_
        refine lv_iload S.x S.b d_Mo_ownCall_241 (lv_at hl 1 rfl) ?_
        refine lv_if_eq (tgt := 265) S.x S.b d_Mo_ownCall_243 (by decide) (fun c417 => ?_) (fun c417 => ?_)
        · exact absurd c417 (by decide)
        ·
          refine lv_aload_n S.x S.b d_Mo_ownCall_246 rfl (lv_at hl 4 rfl) ?_
          have hkf := hkp.2.1; unfold KpF at hkf
          refine lv_aload_n S.x S.b d_Mo_ownCall_247 rfl (lv_at hl 4 rfl) ?_
          refine px_get S k_Mpr hT hw 3 0 10 (v := .int ((QF p0.toNatClampNeg) 10)) rfl rfl rfl (by decide) m11_1 d_Mo_ownCall_248 ?_
          refine lv_iload S.x S.b d_Mo_ownCall_251 (lv_at hl 0 rfl) ?_
          refine lv_isub S.x S.b d_Mo_ownCall_253 ?_
          have lr418 := Int32.le_toInt ((QF p0.toNatClampNeg) 10)
          have ur418 := Int32.toInt_lt ((QF p0.toNatClampNeg) 10)
          refine lv_topi (fun z419 ez419 => ?_)
          have tz419 : z419.toInt = (((QF p0.toNatClampNeg) 10).toInt - (2 : Int) + 2147483648) % 4294967296 - 2147483648 := by rw [ez419]; exact i_sub ((QF p0.toNatClampNeg) 10) 2
          have lz419 := Int32.le_toInt z419
          have uz419 := Int32.toInt_lt z419
          try replace tz419 : z419.toInt = ((QF p0.toNatClampNeg) 10).toInt - (2 : Int) := by omega
          refine px_put S k_Mpr hT hw 3 0 10 rfl rfl (by decide) m11_1 rfl rfl rfl (Nat.le_of_ble_eq_true rfl) d_Mo_ownCall_254 (w' := wd_Mpr cs (hq p0.toNatClampNeg) (qr p0.toNatClampNeg) (fun _ => QO p0.toNatClampNeg) (upd (QF p0.toNatClampNeg) 10 z419) (QA p0.toNatClampNeg) (fun _ _ => none)) (ps' := [wd_Mo cs mo mr (fun _ => none) (upd mf 9 z4) md (gMo PG hq), fm 8 (fPg cs PG), fo 13 (fPr cs hq qr QO QF QA) p0.toNatClampNeg, wd_Mpr cs (hq p0.toNatClampNeg) (qr p0.toNatClampNeg) (fun _ => QO p0.toNatClampNeg) (upd (QF p0.toNatClampNeg) 10 z419) (QA p0.toNatClampNeg) (fun _ _ => none)]) rfl rfl (fun H locs hw => ?_)
          refine lv_aload_n S.x S.b d_Mo_ownCall_257 rfl (lv_at hl 4 rfl) ?_
          refine lv_aload_n S.x S.b d_Mo_ownCall_258 rfl (lv_at hl 5 rfl) ?_
          refine px_get S k_Mo hT hw 0 0 9 (v := .int z4) rfl rfl rfl (by decide) m11_87 d_Mo_ownCall_259 ?_
          refine px_callv (pr := [wd_Mo cs mo mr (fun _ => none) (upd mf 9 z4) md (gMo PG hq), fm 8 (fPg cs PG), fo 13 (fPr cs hq qr QO QF QA) p0.toNatClampNeg]) (px_runV (As := [.int z4]) (rest := []) S (c_mq_give l D cs (hq p0.toNatClampNeg) (qr p0.toNatClampNeg) (fun _ _ => none) (fun _ => QO p0.toNatClampNeg) (upd (QF p0.toNatClampNeg) 10 z419) (QA p0.toNatClampNeg) z4  (show 0 ≤ z419.toInt from by first | exact oz_032273fb6e tz419 nc5 | omega) (show z419.toInt < 62500 from by first | exact oz_7c2ced9dd1 tz419 hpn.2.1 | omega) _) hT (pr := [wd_Mo cs mo mr (fun _ => none) (upd mf 9 z4) md (gMo PG hq), fm 8 (fPg cs PG), fo 13 (fPr cs hq qr QO QF QA) p0.toNatClampNeg]) (pcs := [wd_Mpr cs (hq p0.toNatClampNeg) (qr p0.toNatClampNeg) (fun _ => QO p0.toNatClampNeg) (upd (QF p0.toNatClampNeg) 10 z419) (QA p0.toNatClampNeg) (fun _ _ => none)]) hw px_X.tt (px_recv hT hw 3 0 rfl rfl rfl) m13_161 m14_111 m13_159 m13_160 m1_22 q_Mpr_give ⟨Nat.le_of_ble_eq_true rfl, Nat.le_of_ble_eq_true rfl⟩ hl.1 rfl (Nat.le_of_ble_eq_true rfl) d_Mo_ownCall_262 ⟨Nat.le_of_ble_eq_true rfl, Nat.le_of_ble_eq_true rfl⟩) hw hA (fun p424 H locs hp424 hw => ?_)
          obtain ⟨qf422, qa423, rfl, e426, e427, e428, e429, e430, e431, e432, e433, e434, e435, e436, e437, e438, e439, e440, e441⟩ := hp424
          replace e426 : (qf422 10).toInt = z419.toInt + 1 := e426
          replace e427 : (qf422 1).toInt = ((QF p0.toNatClampNeg) 1).toInt := e427
          replace e428 : (qf422 2).toInt = ((QF p0.toNatClampNeg) 2).toInt := e428
          replace e429 : (qf422 3).toInt = ((QF p0.toNatClampNeg) 3).toInt := e429
          replace e430 : (qf422 4).toInt = ((QF p0.toNatClampNeg) 4).toInt := e430
          replace e431 : (qf422 5).toInt = ((QF p0.toNatClampNeg) 5).toInt := e431
          replace e432 : (qf422 6).toInt = ((QF p0.toNatClampNeg) 6).toInt := e432
          replace e433 : (qf422 7).toInt = ((QF p0.toNatClampNeg) 7).toInt := e433
          replace e434 : (qf422 11).toInt = ((QF p0.toNatClampNeg) 11).toInt := e434
          replace e435 : (qf422 12).toInt = ((QF p0.toNatClampNeg) 12).toInt := e435
          replace e436 : (qf422 13).toInt = ((QF p0.toNatClampNeg) 13).toInt := e436
          replace e437 : (qf422 14).toInt = ((QF p0.toNatClampNeg) 14).toInt := e437
          replace e438 : (qf422 21).toInt = ((QF p0.toNatClampNeg) 21).toInt := e438
          replace e439 : (qf422 23).toInt = ((QF p0.toNatClampNeg) 23).toInt := e439
          replace e440 : (qf422 24).toInt = ((QF p0.toNatClampNeg) 24).toInt := e440
          replace e441 : NuU (QA p0.toNatClampNeg) qa423 9 z419.toInt z4 := e441
          skip
          replace hw : pw D A s.heap H locs [wd_Mo cs mo mr (fun _ => none) (upd mf 9 z4) md (gMo PG hq), fm 8 (fPg cs PG), fo 13 (fPr cs hq qr QO QF QA) p0.toNatClampNeg, wd_Mpr cs (hq p0.toNatClampNeg) (qr p0.toNatClampNeg) (fun _ => QO p0.toNatClampNeg) qf422 qa423 (fun _ _ => none)] := hw
          refine lv_iload S.x S.b d_Mo_ownCall_265 (lv_at hl 1 rfl) ?_
          have hw := fpr_in (pr := [wd_Mo cs mo mr (fun _ => none) (upd mf 9 z4) md (gMo PG hq), fm 8 (fPg cs PG)]) hw hi1
          obtain ⟨QO442, hu_QO442⟩ : ∃ y : Nat → Option Nat, y = va_up QO p0.toNatClampNeg ((fun _ => QO p0.toNatClampNeg) 0) := ⟨_, rfl⟩
          obtain ⟨QF443, hu_QF443⟩ : ∃ y : Nat → Nat → Int32, y = va_up QF p0.toNatClampNeg qf422 := ⟨_, rfl⟩
          obtain ⟨QA444, hu_QA444⟩ : ∃ y : Nat → Nat → Nat → Int32, y = va_up QA p0.toNatClampNeg qa423 := ⟨_, rfl⟩
          have hw : pw D A s.heap _ _ [wd_Mo cs mo mr (fun _ => none) (upd mf 9 z4) md (gMo PG hq), fm 8 (fPg cs PG), fm 13 (fPr cs hq qr QO442 QF443 QA444)] := (by rw [hu_QO442, hu_QF443, hu_QA444]; exact hw)
          have hpx : PrX PG RR QO442 QF443 QA444 p0.toNatClampNeg := (by rw [hu_QO442, hu_QF443, hu_QA444]; exact PrX.up (hpr.px hi1) (show (0 ≤ (qf422 1).toInt ∧ (qf422 1).toInt ≤ 1) ∧ (0 ≤ (qf422 21).toInt ∧ (qf422 21).toInt ≤ 4) ∧ (0 ≤ (qf422 23).toInt ∧ (qf422 23).toInt ≤ 4) ∧ (0 ≤ (qf422 24).toInt ∧ (qf422 24).toInt ≤ 1000000) ∧ (0 ≤ (qf422 6).toInt ∧ (qf422 6).toInt ≤ 3) ∧ (0 ≤ (qf422 7).toInt ∧ (qf422 7).toInt ≤ 1) from by first | with_reducible rfl | with_reducible assumption | omega) (show (qf422 1).toInt = (QF p0.toNatClampNeg 1).toInt from by first | exact oz_1811ac7fe4 e427 | omega) (show (QF p0.toNatClampNeg 6).toInt ≤ (qf422 6).toInt from by first | exact oz_f9b42d1b56 e432 | omega))
          have hpd : PdT (PG j9) (RR p0.toNatClampNeg) (QF443 p0.toNatClampNeg) (QA444 p0.toNatClampNeg) := (by rw [hu_QF443, hu_QA444, va_up_s, va_up_s]; exact PoT.ans hpo (show (qf422 4).toInt = (QF p0.toNatClampNeg 4).toInt ∧ (qf422 5).toInt = (QF p0.toNatClampNeg 5).toInt ∧ (qf422 11).toInt = (QF p0.toNatClampNeg 11).toInt ∧ (qf422 12).toInt = (QF p0.toNatClampNeg 12).toInt ∧ (qf422 13).toInt = (QF p0.toNatClampNeg 13).toInt ∧ (qf422 14).toInt = (QF p0.toNatClampNeg 14).toInt from by first | exact oz_82ab602a70 e430 e431 e434 e435 e436 e437 | omega) (show (qf422 10).toInt = (QF p0.toNatClampNeg 10).toInt - ((oslots p1.toInt).length : Int) + 1 from by first | with_reducible rfl | with_reducible assumption | omega) (show (qf422 24).toInt = (QF p0.toNatClampNeg 24).toInt ∨ (p1.toInt = 1 ∧ (qf422 24).toInt = (QF p0.toNatClampNeg 24).toInt + 1) from by first | with_reducible rfl | with_reducible assumption | omega) (fun i9 q9 => absurd (by rw [hkp.2.2 8 (by decide) (by decide)]) q9) (fun k9 a9 b9 c9 d9 => hkp.2.2 k9 b9 c9) (show NuU _ _ 9 ((QF p0.toNatClampNeg 10).toInt - ((oslots p1.toInt).length : Int)) _ from (by have q8 := e441; rw [show (z419.toInt) = (QF p0.toNatClampNeg 10).toInt - ((oslots p1.toInt).length : Int) by omega] at q8; exact q8)))
          have hko : KpO QO QF QO442 QF443 p0.toNatClampNeg := (by rw [hu_QO442, hu_QF443]; refine ⟨by rw [va_up_s]; first | done | exact hkp.1, ?_⟩; rw [va_up_s]; exact (show (qf422 1).toInt = (QF p0.toNatClampNeg 1).toInt ∧ (qf422 7).toInt = (QF p0.toNatClampNeg 7).toInt ∧ (qf422 11).toInt = (QF p0.toNatClampNeg 11).toInt from by first | exact oz_ca5abb16c6 e427 e433 e434 | omega))
          have hw : pw D A s.heap _ _ [wd_Mo cs mo mr (fun _ => none) (upd mf 9 z4) md (gMo PG hq), fm 13 (fPr cs hq qr QO442 QF443 QA444), fm 8 (fPg cs PG)] := hw.sub [0, 2, 1] rfl rfl
          exact px_iret (v := 1) S hr rfl hlk hAe hw (Nat.le_of_ble_eq_true rfl) (Nat.le_of_ble_eq_true rfl) (⟨(upd mf 9 z4), md, QO442, QF443, QA444, rfl, (show 0 ≤ (1 : Int) from by first | decide | omega), (show (1 : Int) ≤ 1 from by first | decide | omega), (show OwQ (1 : Int) (PrA PG RR QO442 QF443 QA444) (PrX PG RR QO442 QF443 QA444 p0.toNatClampNeg ∧ PdT (PG j9) (RR p0.toNatClampNeg) (QF443 p0.toNatClampNeg) (QA444 p0.toNatClampNeg)) from (Or.inr ⟨by omega, hpx, hpd⟩)), (show KpO QO QF QO442 QF443 p0.toNatClampNeg from hko), (show (mf 0).toInt = (mf 0).toInt from rfl), (show (mf 2).toInt = (mf 2).toInt from rfl), (show (mf 3).toInt = (mf 3).toInt from rfl), (show (mf 7).toInt = (mf 7).toInt from rfl), (show (mf 8).toInt = (mf 8).toInt from rfl), (show (mf 10).toInt = (mf 10).toInt from rfl)⟩) d_Mo_ownCall_267
      · simp only [List.mem_cons, List.not_mem_nil, or_false] at c416
        refine lv_aload_n S.x S.b d_Mo_ownCall_120 rfl (lv_at hl 4 rfl) ?_
        refine lv_iload S.x S.b d_Mo_ownCall_121 (lv_at hl 3 rfl) ?_
        refine px_callv (pr := [wd_Mo cs mo mr (fun _ => none) (upd mf 9 0) md (gMo PG hq), fm 8 (fPg cs PG), fo 13 (fPr cs hq qr QO QF QA) p0.toNatClampNeg]) (px_runV (As := [.int z4]) (rest := []) S (c_mq_write l D cs (hq p0.toNatClampNeg) (qr p0.toNatClampNeg) (fun _ _ => none) (fun _ => QO p0.toNatClampNeg) (QF p0.toNatClampNeg) (QA p0.toNatClampNeg) z4  (show 0 ≤ ((QF p0.toNatClampNeg) 24).toInt from by first | with_reducible rfl | with_reducible assumption | omega) (show ((QF p0.toNatClampNeg) 24).toInt ≤ 1000000 from by first | exact oz_9812ba30bf hpn.2.2.2.2.2.2 hpn.2.2.2.2.1 | omega) _) hT (pr := [wd_Mo cs mo mr (fun _ => none) (upd mf 9 0) md (gMo PG hq), fm 8 (fPg cs PG), fo 13 (fPr cs hq qr QO QF QA) p0.toNatClampNeg]) (pcs := [wd_Mpr cs (hq p0.toNatClampNeg) (qr p0.toNatClampNeg) (fun _ => QO p0.toNatClampNeg) (QF p0.toNatClampNeg) (QA p0.toNatClampNeg) (fun _ _ => none)]) hw px_X.tt (px_recv hT hw 3 0 rfl rfl rfl) m14_39 m14_36 m14_37 m14_38 m1_22 q_Mpr_write ⟨Nat.le_of_ble_eq_true rfl, Nat.le_of_ble_eq_true rfl⟩ hl.1 rfl (Nat.le_of_ble_eq_true rfl) d_Mo_ownCall_123 ⟨Nat.le_of_ble_eq_true rfl, Nat.le_of_ble_eq_true rfl⟩) hw hA (fun p449 H locs hp449 hw => ?_)
        obtain ⟨qf447, qa448, rfl, e451, e452, e453, e454, e455, e456, e457, e458, e459, e460, e461, e462, e463, e464, e465, e466⟩ := hp449
        replace e451 : (qf447 24).toInt = ((QF p0.toNatClampNeg) 24).toInt + 1 := e451
        replace e452 : (qf447 1).toInt = ((QF p0.toNatClampNeg) 1).toInt := e452
        replace e453 : (qf447 2).toInt = ((QF p0.toNatClampNeg) 2).toInt := e453
        replace e454 : (qf447 3).toInt = ((QF p0.toNatClampNeg) 3).toInt := e454
        replace e455 : (qf447 4).toInt = ((QF p0.toNatClampNeg) 4).toInt := e455
        replace e456 : (qf447 5).toInt = ((QF p0.toNatClampNeg) 5).toInt := e456
        replace e457 : (qf447 6).toInt = ((QF p0.toNatClampNeg) 6).toInt := e457
        replace e458 : (qf447 7).toInt = ((QF p0.toNatClampNeg) 7).toInt := e458
        replace e459 : (qf447 10).toInt = ((QF p0.toNatClampNeg) 10).toInt := e459
        replace e460 : (qf447 11).toInt = ((QF p0.toNatClampNeg) 11).toInt := e460
        replace e461 : (qf447 12).toInt = ((QF p0.toNatClampNeg) 12).toInt := e461
        replace e462 : (qf447 13).toInt = ((QF p0.toNatClampNeg) 13).toInt := e462
        replace e463 : (qf447 14).toInt = ((QF p0.toNatClampNeg) 14).toInt := e463
        replace e464 : (qf447 21).toInt = ((QF p0.toNatClampNeg) 21).toInt := e464
        replace e465 : (qf447 23).toInt = ((QF p0.toNatClampNeg) 23).toInt := e465
        replace e466 : ∀ k9 : Nat, k9 ≠ 25 → qa448 k9 = (QA p0.toNatClampNeg) k9 := e466
        have haw := e466
        replace hw : pw D A s.heap H locs [wd_Mo cs mo mr (fun _ => none) (upd mf 9 0) md (gMo PG hq), fm 8 (fPg cs PG), fo 13 (fPr cs hq qr QO QF QA) p0.toNatClampNeg, wd_Mpr cs (hq p0.toNatClampNeg) (qr p0.toNatClampNeg) (fun _ => QO p0.toNatClampNeg) qf447 qa448 (fun _ _ => none)] := hw
        refine lv_goto (tgt := 241) S.x S.b d_Mo_ownCall_126 (by decide) ?_
        refine lv_iload S.x S.b d_Mo_ownCall_241 (lv_at hl 1 rfl) ?_
        refine lv_if_eq (tgt := 265) S.x S.b d_Mo_ownCall_243 (by decide) (fun c467 => ?_) (fun c467 => ?_)
        · exact absurd c467 (by decide)
        ·
          refine lv_aload_n S.x S.b d_Mo_ownCall_246 rfl (lv_at hl 4 rfl) ?_
          have hkf := hkp.2.1; unfold KpF at hkf
          refine lv_aload_n S.x S.b d_Mo_ownCall_247 rfl (lv_at hl 4 rfl) ?_
          refine px_get S k_Mpr hT hw 3 0 10 (v := .int (qf447 10)) rfl rfl rfl (by decide) m11_1 d_Mo_ownCall_248 ?_
          refine lv_iload S.x S.b d_Mo_ownCall_251 (lv_at hl 0 rfl) ?_
          refine lv_isub S.x S.b d_Mo_ownCall_253 ?_
          have lr468 := Int32.le_toInt (qf447 10)
          have ur468 := Int32.toInt_lt (qf447 10)
          refine lv_topi (fun z469 ez469 => ?_)
          have tz469 : z469.toInt = ((qf447 10).toInt - (1 : Int) + 2147483648) % 4294967296 - 2147483648 := by rw [ez469]; exact i_sub (qf447 10) 1
          have lz469 := Int32.le_toInt z469
          have uz469 := Int32.toInt_lt z469
          try replace tz469 : z469.toInt = (qf447 10).toInt - (1 : Int) := by omega
          refine px_put S k_Mpr hT hw 3 0 10 rfl rfl (by decide) m11_1 rfl rfl rfl (Nat.le_of_ble_eq_true rfl) d_Mo_ownCall_254 (w' := wd_Mpr cs (hq p0.toNatClampNeg) (qr p0.toNatClampNeg) (fun _ => QO p0.toNatClampNeg) (upd qf447 10 z469) qa448 (fun _ _ => none)) (ps' := [wd_Mo cs mo mr (fun _ => none) (upd mf 9 0) md (gMo PG hq), fm 8 (fPg cs PG), fo 13 (fPr cs hq qr QO QF QA) p0.toNatClampNeg, wd_Mpr cs (hq p0.toNatClampNeg) (qr p0.toNatClampNeg) (fun _ => QO p0.toNatClampNeg) (upd qf447 10 z469) qa448 (fun _ _ => none)]) rfl rfl (fun H locs hw => ?_)
          refine lv_aload_n S.x S.b d_Mo_ownCall_257 rfl (lv_at hl 4 rfl) ?_
          refine lv_aload_n S.x S.b d_Mo_ownCall_258 rfl (lv_at hl 5 rfl) ?_
          refine px_get S k_Mo hT hw 0 0 9 (v := .int 0) rfl rfl rfl (by decide) m11_87 d_Mo_ownCall_259 ?_
          refine px_callv (pr := [wd_Mo cs mo mr (fun _ => none) (upd mf 9 0) md (gMo PG hq), fm 8 (fPg cs PG), fo 13 (fPr cs hq qr QO QF QA) p0.toNatClampNeg]) (px_runV (As := [.int 0]) (rest := []) S (c_mq_give l D cs (hq p0.toNatClampNeg) (qr p0.toNatClampNeg) (fun _ _ => none) (fun _ => QO p0.toNatClampNeg) (upd qf447 10 z469) qa448 0  (show 0 ≤ z469.toInt from by first | exact oz_89fa327c54 tz469 e459 nc5 | omega) (show z469.toInt < 62500 from by first | exact oz_379d4e28b3 tz469 e459 hpn.2.1 | omega) _) hT (pr := [wd_Mo cs mo mr (fun _ => none) (upd mf 9 0) md (gMo PG hq), fm 8 (fPg cs PG), fo 13 (fPr cs hq qr QO QF QA) p0.toNatClampNeg]) (pcs := [wd_Mpr cs (hq p0.toNatClampNeg) (qr p0.toNatClampNeg) (fun _ => QO p0.toNatClampNeg) (upd qf447 10 z469) qa448 (fun _ _ => none)]) hw px_X.tt (px_recv hT hw 3 0 rfl rfl rfl) m13_161 m14_111 m13_159 m13_160 m1_22 q_Mpr_give ⟨Nat.le_of_ble_eq_true rfl, Nat.le_of_ble_eq_true rfl⟩ hl.1 rfl (Nat.le_of_ble_eq_true rfl) d_Mo_ownCall_262 ⟨Nat.le_of_ble_eq_true rfl, Nat.le_of_ble_eq_true rfl⟩) hw hA (fun p474 H locs hp474 hw => ?_)
          obtain ⟨qf472, qa473, rfl, e476, e477, e478, e479, e480, e481, e482, e483, e484, e485, e486, e487, e488, e489, e490, e491⟩ := hp474
          replace e476 : (qf472 10).toInt = z469.toInt + 1 := e476
          replace e477 : (qf472 1).toInt = (qf447 1).toInt := e477
          replace e478 : (qf472 2).toInt = (qf447 2).toInt := e478
          replace e479 : (qf472 3).toInt = (qf447 3).toInt := e479
          replace e480 : (qf472 4).toInt = (qf447 4).toInt := e480
          replace e481 : (qf472 5).toInt = (qf447 5).toInt := e481
          replace e482 : (qf472 6).toInt = (qf447 6).toInt := e482
          replace e483 : (qf472 7).toInt = (qf447 7).toInt := e483
          replace e484 : (qf472 11).toInt = (qf447 11).toInt := e484
          replace e485 : (qf472 12).toInt = (qf447 12).toInt := e485
          replace e486 : (qf472 13).toInt = (qf447 13).toInt := e486
          replace e487 : (qf472 14).toInt = (qf447 14).toInt := e487
          replace e488 : (qf472 21).toInt = (qf447 21).toInt := e488
          replace e489 : (qf472 23).toInt = (qf447 23).toInt := e489
          replace e490 : (qf472 24).toInt = (qf447 24).toInt := e490
          replace e491 : NuU qa448 qa473 9 z469.toInt (0 : Int32) := e491
          skip
          replace hw : pw D A s.heap H locs [wd_Mo cs mo mr (fun _ => none) (upd mf 9 0) md (gMo PG hq), fm 8 (fPg cs PG), fo 13 (fPr cs hq qr QO QF QA) p0.toNatClampNeg, wd_Mpr cs (hq p0.toNatClampNeg) (qr p0.toNatClampNeg) (fun _ => QO p0.toNatClampNeg) qf472 qa473 (fun _ _ => none)] := hw
          refine lv_iload S.x S.b d_Mo_ownCall_265 (lv_at hl 1 rfl) ?_
          have hw := fpr_in (pr := [wd_Mo cs mo mr (fun _ => none) (upd mf 9 0) md (gMo PG hq), fm 8 (fPg cs PG)]) hw hi1
          obtain ⟨QO492, hu_QO492⟩ : ∃ y : Nat → Option Nat, y = va_up QO p0.toNatClampNeg ((fun _ => QO p0.toNatClampNeg) 0) := ⟨_, rfl⟩
          obtain ⟨QF493, hu_QF493⟩ : ∃ y : Nat → Nat → Int32, y = va_up QF p0.toNatClampNeg qf472 := ⟨_, rfl⟩
          obtain ⟨QA494, hu_QA494⟩ : ∃ y : Nat → Nat → Nat → Int32, y = va_up QA p0.toNatClampNeg qa473 := ⟨_, rfl⟩
          have hw : pw D A s.heap _ _ [wd_Mo cs mo mr (fun _ => none) (upd mf 9 0) md (gMo PG hq), fm 8 (fPg cs PG), fm 13 (fPr cs hq qr QO492 QF493 QA494)] := (by rw [hu_QO492, hu_QF493, hu_QA494]; exact hw)
          have hpx : PrX PG RR QO492 QF493 QA494 p0.toNatClampNeg := (by rw [hu_QO492, hu_QF493, hu_QA494]; exact PrX.up (hpr.px hi1) (show (0 ≤ (qf472 1).toInt ∧ (qf472 1).toInt ≤ 1) ∧ (0 ≤ (qf472 21).toInt ∧ (qf472 21).toInt ≤ 4) ∧ (0 ≤ (qf472 23).toInt ∧ (qf472 23).toInt ≤ 4) ∧ (0 ≤ (qf472 24).toInt ∧ (qf472 24).toInt ≤ 1000000) ∧ (0 ≤ (qf472 6).toInt ∧ (qf472 6).toInt ≤ 3) ∧ (0 ≤ (qf472 7).toInt ∧ (qf472 7).toInt ≤ 1) from by first | with_reducible rfl | with_reducible assumption | omega) (show (qf472 1).toInt = (QF p0.toNatClampNeg 1).toInt from by first | exact oz_1687f4cc65 e452 e477 | omega) (show (QF p0.toNatClampNeg 6).toInt ≤ (qf472 6).toInt from by first | exact oz_d01699e821 e457 e482 | omega))
          have hpd : PdT (PG j9) (RR p0.toNatClampNeg) (QF493 p0.toNatClampNeg) (QA494 p0.toNatClampNeg) := (by rw [hu_QF493, hu_QA494, va_up_s, va_up_s]; exact PoT.ans hpo (show (qf472 4).toInt = (QF p0.toNatClampNeg 4).toInt ∧ (qf472 5).toInt = (QF p0.toNatClampNeg 5).toInt ∧ (qf472 11).toInt = (QF p0.toNatClampNeg 11).toInt ∧ (qf472 12).toInt = (QF p0.toNatClampNeg 12).toInt ∧ (qf472 13).toInt = (QF p0.toNatClampNeg 13).toInt ∧ (qf472 14).toInt = (QF p0.toNatClampNeg 14).toInt from by first | exact oz_e3309c85a3 e455 e480 e456 e481 e460 e484 e461 e485 e462 e486 e463 e487 | omega) (show (qf472 10).toInt = (QF p0.toNatClampNeg 10).toInt - ((oslots p1.toInt).length : Int) + 1 from by first | with_reducible rfl | with_reducible assumption | omega) (show (qf472 24).toInt = (QF p0.toNatClampNeg 24).toInt ∨ (p1.toInt = 1 ∧ (qf472 24).toInt = (QF p0.toNatClampNeg 24).toInt + 1) from by first | with_reducible rfl | with_reducible assumption | omega) (fun i9 q9 => absurd (congrFun (haw 8 (by decide)) i9) q9) (fun k9 a9 b9 c9 d9 => haw k9 d9) (show NuU _ _ 9 ((QF p0.toNatClampNeg 10).toInt - ((oslots p1.toInt).length : Int)) _ from (by have q8 := e491; rw [show (z469.toInt) = (QF p0.toNatClampNeg 10).toInt - ((oslots p1.toInt).length : Int) by omega] at q8; exact q8)))
          have hko : KpO QO QF QO492 QF493 p0.toNatClampNeg := (by rw [hu_QO492, hu_QF493]; refine ⟨by rw [va_up_s]; first | done | exact hkp.1, ?_⟩; rw [va_up_s]; exact (show (qf472 1).toInt = (QF p0.toNatClampNeg 1).toInt ∧ (qf472 7).toInt = (QF p0.toNatClampNeg 7).toInt ∧ (qf472 11).toInt = (QF p0.toNatClampNeg 11).toInt from by first | exact oz_c24f474a2b e452 e477 e458 e483 e460 e484 | omega))
          have hw : pw D A s.heap _ _ [wd_Mo cs mo mr (fun _ => none) (upd mf 9 0) md (gMo PG hq), fm 13 (fPr cs hq qr QO492 QF493 QA494), fm 8 (fPg cs PG)] := hw.sub [0, 2, 1] rfl rfl
          exact px_iret (v := 1) S hr rfl hlk hAe hw (Nat.le_of_ble_eq_true rfl) (Nat.le_of_ble_eq_true rfl) (⟨(upd mf 9 0), md, QO492, QF493, QA494, rfl, (show 0 ≤ (1 : Int) from by first | decide | omega), (show (1 : Int) ≤ 1 from by first | decide | omega), (show OwQ (1 : Int) (PrA PG RR QO492 QF493 QA494) (PrX PG RR QO492 QF493 QA494 p0.toNatClampNeg ∧ PdT (PG j9) (RR p0.toNatClampNeg) (QF493 p0.toNatClampNeg) (QA494 p0.toNatClampNeg)) from (Or.inr ⟨by omega, hpx, hpd⟩)), (show KpO QO QF QO492 QF493 p0.toNatClampNeg from hko), (show (mf 0).toInt = (mf 0).toInt from rfl), (show (mf 2).toInt = (mf 2).toInt from rfl), (show (mf 3).toInt = (mf 3).toInt from rfl), (show (mf 7).toInt = (mf 7).toInt from rfl), (show (mf 8).toInt = (mf 8).toInt from rfl), (show (mf 10).toInt = (mf 10).toInt from rfl)⟩) d_Mo_ownCall_267
      · simp only [List.mem_cons, List.not_mem_nil, or_false] at c416
        refine lv_aload_n S.x S.b d_Mo_ownCall_129 rfl (lv_at hl 5 rfl) ?_
        refine lv_iload_n S.x S.b d_Mo_ownCall_130 rfl (lv_at hl 6 rfl) ?_
        refine lv_iload S.x S.b d_Mo_ownCall_131 (lv_at hl 2 rfl) ?_
        refine lv_iload S.x S.b d_Mo_ownCall_133 (lv_at hl 3 rfl) ?_
        have hw : pw D A s.heap _ _ [wd_Mo cs mo mr (fun _ => none) (upd mf 9 0) md (gMo PG hq), fm 8 (fPg cs PG), fm 13 (fPr cs hq qr QO QF QA)] := fm_back (pr := [wd_Mo cs mo mr (fun _ => none) (upd mf 9 0) md (gMo PG hq), fm 8 (fPg cs PG)]) (T := fPr cs hq qr QO QF QA) hw hi1
        have hw : pw D A s.heap _ _ [wd_Mo cs mo mr (fun _ => none) (upd mf 9 0) md (gMo PG hq), fm 13 (fPr cs hq qr QO QF QA), fm 8 (fPg cs PG)] := hw.sub [0, 2, 1] rfl rfl
        refine px_calli (pr := []) (px_runV (As := [.int p0, .int z369, .int z4]) (rest := []) S (c_mo_sends l D cs RR mo mr (upd mf 9 0) md hq qr QO QF QA PG p0 z369 z4  (show 0 ≤ p0.toInt from by first | exact g0 | omega) (show p0.toInt < 13 from by first | exact g1 | omega) hpr hpg _) hT (pr := []) (pcs := [wd_Mo cs mo mr (fun _ => none) (upd mf 9 0) md (gMo PG hq), fm 13 (fPr cs hq qr QO QF QA), fm 8 (fPg cs PG)]) hw px_X.tt (px_recv hT hw 0 0 rfl rfl rfl) m14_43 m14_40 m14_42 ms_15_13 m1_20 q_Mo_sends ⟨Nat.le_of_ble_eq_true rfl, Nat.le_of_ble_eq_true rfl⟩ hl.1 rfl (Nat.le_of_ble_eq_true rfl) d_Mo_ownCall_135 ⟨Nat.le_of_ble_eq_true rfl, Nat.le_of_ble_eq_true rfl⟩) hw hA (fun v502 p501 H locs hp501 hw => ?_)
        obtain ⟨QO498, QF499, QA500, rfl, e503, e504, e505, e506⟩ := hp501
        replace e503 : PrA PG RR QO498 QF499 QA500 := e503
        have hpr := e503
        replace e504 : KpP QO QF QA QO498 QF499 QA500 p0.toNatClampNeg := e504
        have hkp := hkp.tr e504
        replace e505 : 0 ≤ v502.toInt := e505
        replace e506 : v502.toInt ≤ 1 := e506
        replace hw : pw D A s.heap H locs [wd_Mo cs mo mr (fun _ => none) (upd mf 9 0) md (gMo PG hq), fm 13 (fPr cs hq qr QO498 QF499 QA500), fm 8 (fPg cs PG)] := hw
        have lv502 := Int32.le_toInt v502
        have uv502 := Int32.toInt_lt v502
        refine lv_istore (lv' := [(6, .int v502), (7, .int 1), (5, .int z369), (4, .int z4), (3, .ref (hq p0.toNatClampNeg)), (0, .ref mo), (1, .int p0), (2, .int p1)]) S.x S.b d_Mo_ownCall_138 hl (by decide) rfl (fun ls hl => ?_)
        refine lv_iconst (v := 2) S.x S.b d_Mo_ownCall_140 (by decide) ?_
        refine lv_istore (lv' := [(7, .int 2), (6, .int v502), (5, .int z369), (4, .int z4), (3, .ref (hq p0.toNatClampNeg)), (0, .ref mo), (1, .int p0), (2, .int p1)]) S.x S.b d_Mo_ownCall_141 hl (by decide) rfl (fun ls hl => ?_)
        refine lv_goto (tgt := 241) S.x S.b d_Mo_ownCall_143 (by decide) ?_
        refine lv_iload S.x S.b d_Mo_ownCall_241 (lv_at hl 1 rfl) ?_
        refine lv_if_eq (tgt := 265) S.x S.b d_Mo_ownCall_243 (by decide) (fun c507 => ?_) (fun c507 => ?_)
        · have nc507 : v502.toInt = (0 : Int) := (i_eq (x := v502) (y := 0)).mp c507
          refine lv_iload S.x S.b d_Mo_ownCall_265 (lv_at hl 1 rfl) ?_
          exact px_iret (v := v502) S hr (z_nar (by omega)) hlk hAe hw (Nat.le_of_ble_eq_true rfl) (Nat.le_of_ble_eq_true rfl) (⟨(upd mf 9 0), md, QO498, QF499, QA500, rfl, (show 0 ≤ v502.toInt from by first | exact e505 | omega), (show v502.toInt ≤ 1 from by first | exact e506 | omega), (show OwQ v502.toInt (PrA PG RR QO498 QF499 QA500) (PrX PG RR QO498 QF499 QA500 p0.toNatClampNeg ∧ PdT (PG j9) (RR p0.toNatClampNeg) (QF499 p0.toNatClampNeg) (QA500 p0.toNatClampNeg)) from (Or.inl ⟨by omega, hpr⟩)), (show KpO QO QF QO498 QF499 p0.toNatClampNeg from hkp.o), (show (mf 0).toInt = (mf 0).toInt from rfl), (show (mf 2).toInt = (mf 2).toInt from rfl), (show (mf 3).toInt = (mf 3).toInt from rfl), (show (mf 7).toInt = (mf 7).toInt from rfl), (show (mf 8).toInt = (mf 8).toInt from rfl), (show (mf 10).toInt = (mf 10).toInt from rfl)⟩) d_Mo_ownCall_267
        · have nc507 : ¬ v502.toInt = (0 : Int) := mt (i_eq (x := v502) (y := 0)).mpr c507
          refine lv_aload_n S.x S.b d_Mo_ownCall_246 rfl (lv_at hl 4 rfl) ?_
          have hkf := hkp.2.1; unfold KpF at hkf
          refine lv_aload_n S.x S.b d_Mo_ownCall_247 rfl (lv_at hl 4 rfl) ?_
          have hw : pw D A s.heap _ _ [wd_Mo cs mo mr (fun _ => none) (upd mf 9 0) md (gMo PG hq), fm 8 (fPg cs PG), fm 13 (fPr cs hq qr QO498 QF499 QA500)] := hw.sub [0, 2, 1] rfl rfl
          have hc508 := cl_nat (x := p0) (by first | exact g0 | omega)
          have hi508 : p0.toNatClampNeg < 13 := by first | exact hi1 | omega
          have hw : pw D A s.heap _ _ [wd_Mo cs mo mr (fun _ => none) (upd mf 9 0) md (gMo PG hq), fm 8 (fPg cs PG), fo 13 (fPr cs hq qr QO498 QF499 QA500) p0.toNatClampNeg, wd_Mpr cs (hq p0.toNatClampNeg) (qr p0.toNatClampNeg) (fun _ => QO498 p0.toNatClampNeg) (QF499 p0.toNatClampNeg) (QA500 p0.toNatClampNeg) (fun _ _ => none)] := fm_out (pr := [wd_Mo cs mo mr (fun _ => none) (upd mf 9 0) md (gMo PG hq), fm 8 (fPg cs PG)]) (T := fPr cs hq qr QO498 QF499 QA500) hw hi508
          have hps508 := hpr.1 p0.toNatClampNeg hi508
          have hpb508 := hps508.1
          unfold PsB at hpb508
          refine px_get S k_Mpr hT hw 3 0 10 (v := .int ((QF499 p0.toNatClampNeg) 10)) rfl rfl rfl (by decide) m11_1 d_Mo_ownCall_248 ?_
          refine lv_iload S.x S.b d_Mo_ownCall_251 (lv_at hl 0 rfl) ?_
          refine lv_isub S.x S.b d_Mo_ownCall_253 ?_
          have lr509 := Int32.le_toInt ((QF499 p0.toNatClampNeg) 10)
          have ur509 := Int32.toInt_lt ((QF499 p0.toNatClampNeg) 10)
          refine lv_topi (fun z510 ez510 => ?_)
          have tz510 : z510.toInt = (((QF499 p0.toNatClampNeg) 10).toInt - (2 : Int) + 2147483648) % 4294967296 - 2147483648 := by rw [ez510]; exact i_sub ((QF499 p0.toNatClampNeg) 10) 2
          have lz510 := Int32.le_toInt z510
          have uz510 := Int32.toInt_lt z510
          try replace tz510 : z510.toInt = ((QF499 p0.toNatClampNeg) 10).toInt - (2 : Int) := by omega
          refine px_put S k_Mpr hT hw 3 0 10 rfl rfl (by decide) m11_1 rfl rfl rfl (Nat.le_of_ble_eq_true rfl) d_Mo_ownCall_254 (w' := wd_Mpr cs (hq p0.toNatClampNeg) (qr p0.toNatClampNeg) (fun _ => QO498 p0.toNatClampNeg) (upd (QF499 p0.toNatClampNeg) 10 z510) (QA500 p0.toNatClampNeg) (fun _ _ => none)) (ps' := [wd_Mo cs mo mr (fun _ => none) (upd mf 9 0) md (gMo PG hq), fm 8 (fPg cs PG), fo 13 (fPr cs hq qr QO498 QF499 QA500) p0.toNatClampNeg, wd_Mpr cs (hq p0.toNatClampNeg) (qr p0.toNatClampNeg) (fun _ => QO498 p0.toNatClampNeg) (upd (QF499 p0.toNatClampNeg) 10 z510) (QA500 p0.toNatClampNeg) (fun _ _ => none)]) rfl rfl (fun H locs hw => ?_)
          refine lv_aload_n S.x S.b d_Mo_ownCall_257 rfl (lv_at hl 4 rfl) ?_
          refine lv_aload_n S.x S.b d_Mo_ownCall_258 rfl (lv_at hl 5 rfl) ?_
          refine px_get S k_Mo hT hw 0 0 9 (v := .int 0) rfl rfl rfl (by decide) m11_87 d_Mo_ownCall_259 ?_
          refine px_callv (pr := [wd_Mo cs mo mr (fun _ => none) (upd mf 9 0) md (gMo PG hq), fm 8 (fPg cs PG), fo 13 (fPr cs hq qr QO498 QF499 QA500) p0.toNatClampNeg]) (px_runV (As := [.int 0]) (rest := []) S (c_mq_give l D cs (hq p0.toNatClampNeg) (qr p0.toNatClampNeg) (fun _ _ => none) (fun _ => QO498 p0.toNatClampNeg) (upd (QF499 p0.toNatClampNeg) 10 z510) (QA500 p0.toNatClampNeg) 0  (show 0 ≤ z510.toInt from by first | with_reducible rfl | with_reducible assumption | omega) (show z510.toInt < 62500 from by first | with_reducible rfl | with_reducible assumption | omega) _) hT (pr := [wd_Mo cs mo mr (fun _ => none) (upd mf 9 0) md (gMo PG hq), fm 8 (fPg cs PG), fo 13 (fPr cs hq qr QO498 QF499 QA500) p0.toNatClampNeg]) (pcs := [wd_Mpr cs (hq p0.toNatClampNeg) (qr p0.toNatClampNeg) (fun _ => QO498 p0.toNatClampNeg) (upd (QF499 p0.toNatClampNeg) 10 z510) (QA500 p0.toNatClampNeg) (fun _ _ => none)]) hw px_X.tt (px_recv hT hw 3 0 rfl rfl rfl) m13_161 m14_111 m13_159 m13_160 m1_22 q_Mpr_give ⟨Nat.le_of_ble_eq_true rfl, Nat.le_of_ble_eq_true rfl⟩ hl.1 rfl (Nat.le_of_ble_eq_true rfl) d_Mo_ownCall_262 ⟨Nat.le_of_ble_eq_true rfl, Nat.le_of_ble_eq_true rfl⟩) hw hA (fun p515 H locs hp515 hw => ?_)
          obtain ⟨qf513, qa514, rfl, e517, e518, e519, e520, e521, e522, e523, e524, e525, e526, e527, e528, e529, e530, e531, e532⟩ := hp515
          replace e517 : (qf513 10).toInt = z510.toInt + 1 := e517
          replace e518 : (qf513 1).toInt = ((QF499 p0.toNatClampNeg) 1).toInt := e518
          replace e519 : (qf513 2).toInt = ((QF499 p0.toNatClampNeg) 2).toInt := e519
          replace e520 : (qf513 3).toInt = ((QF499 p0.toNatClampNeg) 3).toInt := e520
          replace e521 : (qf513 4).toInt = ((QF499 p0.toNatClampNeg) 4).toInt := e521
          replace e522 : (qf513 5).toInt = ((QF499 p0.toNatClampNeg) 5).toInt := e522
          replace e523 : (qf513 6).toInt = ((QF499 p0.toNatClampNeg) 6).toInt := e523
          replace e524 : (qf513 7).toInt = ((QF499 p0.toNatClampNeg) 7).toInt := e524
          replace e525 : (qf513 11).toInt = ((QF499 p0.toNatClampNeg) 11).toInt := e525
          replace e526 : (qf513 12).toInt = ((QF499 p0.toNatClampNeg) 12).toInt := e526
          replace e527 : (qf513 13).toInt = ((QF499 p0.toNatClampNeg) 13).toInt := e527
          replace e528 : (qf513 14).toInt = ((QF499 p0.toNatClampNeg) 14).toInt := e528
          replace e529 : (qf513 21).toInt = ((QF499 p0.toNatClampNeg) 21).toInt := e529
          replace e530 : (qf513 23).toInt = ((QF499 p0.toNatClampNeg) 23).toInt := e530
          replace e531 : (qf513 24).toInt = ((QF499 p0.toNatClampNeg) 24).toInt := e531
          replace e532 : NuU (QA500 p0.toNatClampNeg) qa514 9 z510.toInt (0 : Int32) := e532
          skip
          replace hw : pw D A s.heap H locs [wd_Mo cs mo mr (fun _ => none) (upd mf 9 0) md (gMo PG hq), fm 8 (fPg cs PG), fo 13 (fPr cs hq qr QO498 QF499 QA500) p0.toNatClampNeg, wd_Mpr cs (hq p0.toNatClampNeg) (qr p0.toNatClampNeg) (fun _ => QO498 p0.toNatClampNeg) qf513 qa514 (fun _ _ => none)] := hw
          refine lv_iload S.x S.b d_Mo_ownCall_265 (lv_at hl 1 rfl) ?_
          have hw := fpr_in (pr := [wd_Mo cs mo mr (fun _ => none) (upd mf 9 0) md (gMo PG hq), fm 8 (fPg cs PG)]) hw hi508
          obtain ⟨QO533, hu_QO533⟩ : ∃ y : Nat → Option Nat, y = va_up QO498 p0.toNatClampNeg ((fun _ => QO498 p0.toNatClampNeg) 0) := ⟨_, rfl⟩
          obtain ⟨QF534, hu_QF534⟩ : ∃ y : Nat → Nat → Int32, y = va_up QF499 p0.toNatClampNeg qf513 := ⟨_, rfl⟩
          obtain ⟨QA535, hu_QA535⟩ : ∃ y : Nat → Nat → Nat → Int32, y = va_up QA500 p0.toNatClampNeg qa514 := ⟨_, rfl⟩
          have hw : pw D A s.heap _ _ [wd_Mo cs mo mr (fun _ => none) (upd mf 9 0) md (gMo PG hq), fm 8 (fPg cs PG), fm 13 (fPr cs hq qr QO533 QF534 QA535)] := (by rw [hu_QO533, hu_QF534, hu_QA535]; exact hw)
          have hpx : PrX PG RR QO533 QF534 QA535 p0.toNatClampNeg := (by rw [hu_QO533, hu_QF534, hu_QA535]; exact PrX.up (hpr.px hi508) (show (0 ≤ (qf513 1).toInt ∧ (qf513 1).toInt ≤ 1) ∧ (0 ≤ (qf513 21).toInt ∧ (qf513 21).toInt ≤ 4) ∧ (0 ≤ (qf513 23).toInt ∧ (qf513 23).toInt ≤ 4) ∧ (0 ≤ (qf513 24).toInt ∧ (qf513 24).toInt ≤ 1000000) ∧ (0 ≤ (qf513 6).toInt ∧ (qf513 6).toInt ≤ 3) ∧ (0 ≤ (qf513 7).toInt ∧ (qf513 7).toInt ≤ 1) from by first | with_reducible rfl | with_reducible assumption | omega) (show (qf513 1).toInt = (QF499 p0.toNatClampNeg 1).toInt from by first | exact oz_1811ac7fe4 e518 | omega) (show (QF499 p0.toNatClampNeg 6).toInt ≤ (qf513 6).toInt from by first | exact oz_f9b42d1b56 e523 | omega))
          have hpd : PdT (PG j9) (RR p0.toNatClampNeg) (QF534 p0.toNatClampNeg) (QA535 p0.toNatClampNeg) := (by rw [hu_QF534, hu_QA535, va_up_s, va_up_s]; exact PoT.ans hpo (show (qf513 4).toInt = (QF p0.toNatClampNeg 4).toInt ∧ (qf513 5).toInt = (QF p0.toNatClampNeg 5).toInt ∧ (qf513 11).toInt = (QF p0.toNatClampNeg 11).toInt ∧ (qf513 12).toInt = (QF p0.toNatClampNeg 12).toInt ∧ (qf513 13).toInt = (QF p0.toNatClampNeg 13).toInt ∧ (qf513 14).toInt = (QF p0.toNatClampNeg 14).toInt from by first | with_reducible rfl | with_reducible assumption | omega) (show (qf513 10).toInt = (QF p0.toNatClampNeg 10).toInt - ((oslots p1.toInt).length : Int) + 1 from by first | with_reducible rfl | with_reducible assumption | omega) (show (qf513 24).toInt = (QF p0.toNatClampNeg 24).toInt ∨ (p1.toInt = 1 ∧ (qf513 24).toInt = (QF p0.toNatClampNeg 24).toInt + 1) from by first | with_reducible rfl | with_reducible assumption | omega) (fun i9 q9 => absurd (by rw [hkp.2.2 8 (by decide) (by decide)]) q9) (fun k9 a9 b9 c9 d9 => hkp.2.2 k9 b9 c9) (show NuU _ _ 9 ((QF p0.toNatClampNeg 10).toInt - ((oslots p1.toInt).length : Int)) _ from (by have q8 := e532; rw [show (z510.toInt) = (QF p0.toNatClampNeg 10).toInt - ((oslots p1.toInt).length : Int) by omega] at q8; exact q8)))
          have hko : KpO QO QF QO533 QF534 p0.toNatClampNeg := (by rw [hu_QO533, hu_QF534]; refine ⟨by rw [va_up_s]; first | done | exact hkp.1, ?_⟩; rw [va_up_s]; exact (show (qf513 1).toInt = (QF p0.toNatClampNeg 1).toInt ∧ (qf513 7).toInt = (QF p0.toNatClampNeg 7).toInt ∧ (qf513 11).toInt = (QF p0.toNatClampNeg 11).toInt from by first | with_reducible rfl | with_reducible assumption | omega))
          have hw : pw D A s.heap _ _ [wd_Mo cs mo mr (fun _ => none) (upd mf 9 0) md (gMo PG hq), fm 13 (fPr cs hq qr QO533 QF534 QA535), fm 8 (fPg cs PG)] := hw.sub [0, 2, 1] rfl rfl
          exact px_iret (v := v502) S hr (z_nar (by omega)) hlk hAe hw (Nat.le_of_ble_eq_true rfl) (Nat.le_of_ble_eq_true rfl) (⟨(upd mf 9 0), md, QO533, QF534, QA535, rfl, (show 0 ≤ v502.toInt from by first | exact e505 | omega), (show v502.toInt ≤ 1 from by first | exact e506 | omega), (show OwQ v502.toInt (PrA PG RR QO533 QF534 QA535) (PrX PG RR QO533 QF534 QA535 p0.toNatClampNeg ∧ PdT (PG j9) (RR p0.toNatClampNeg) (QF534 p0.toNatClampNeg) (QA535 p0.toNatClampNeg)) from (Or.inr ⟨by omega, hpx, hpd⟩)), (show KpO QO QF QO533 QF534 p0.toNatClampNeg from hko), (show (mf 0).toInt = (mf 0).toInt from rfl), (show (mf 2).toInt = (mf 2).toInt from rfl), (show (mf 3).toInt = (mf 3).toInt from rfl), (show (mf 7).toInt = (mf 7).toInt from rfl), (show (mf 8).toInt = (mf 8).toInt from rfl), (show (mf 10).toInt = (mf 10).toInt from rfl)⟩) d_Mo_ownCall_267
      · simp only [List.mem_cons, List.not_mem_nil, or_false] at c416
        refine lv_aload_n S.x S.b d_Mo_ownCall_146 rfl (lv_at hl 5 rfl) ?_
        refine lv_iload_n S.x S.b d_Mo_ownCall_147 rfl (lv_at hl 6 rfl) ?_
        refine lv_iload S.x S.b d_Mo_ownCall_148 (lv_at hl 3 rfl) ?_
        have hw : pw D A s.heap _ _ [wd_Mo cs mo mr (fun _ => none) (upd mf 9 0) md (gMo PG hq), fm 8 (fPg cs PG), fm 13 (fPr cs hq qr QO QF QA)] := fm_back (pr := [wd_Mo cs mo mr (fun _ => none) (upd mf 9 0) md (gMo PG hq), fm 8 (fPg cs PG)]) (T := fPr cs hq qr QO QF QA) hw hi1
        have hw : pw D A s.heap _ _ [wd_Mo cs mo mr (fun _ => none) (upd mf 9 0) md (gMo PG hq), fm 13 (fPr cs hq qr QO QF QA), fm 8 (fPg cs PG)] := hw.sub [0, 2, 1] rfl rfl
        refine px_calli (pr := []) (px_runV (As := [.int p0, .int z4]) (rest := []) S (c_mo_receives l D cs RR mo mr md (upd mf 9 0) hq qr QO QF QA PG p0 z4  (show 0 ≤ p0.toInt from by first | exact g0 | omega) (show p0.toInt < 13 from by first | exact g1 | omega) hpr hpg _) hT (pr := []) (pcs := [wd_Mo cs mo mr (fun _ => none) (upd mf 9 0) md (gMo PG hq), fm 13 (fPr cs hq qr QO QF QA), fm 8 (fPg cs PG)]) hw px_X.tt (px_recv hT hw 0 0 rfl rfl rfl) m14_66 m14_63 m14_65 ms_16_1 m1_20 q_Mo_receives ⟨Nat.le_of_ble_eq_true rfl, Nat.le_of_ble_eq_true rfl⟩ hl.1 rfl (Nat.le_of_ble_eq_true rfl) d_Mo_ownCall_150 ⟨Nat.le_of_ble_eq_true rfl, Nat.le_of_ble_eq_true rfl⟩) hw hA (fun v545 p544 H locs hp544 hw => ?_)
        obtain ⟨mf540, QO541, QF542, QA543, rfl, e546, e547, e548, e549, e550, e551, e552, e553, e554, e555⟩ := hp544
        replace e546 : PrA PG RR QO541 QF542 QA543 := e546
        have hpr := e546
        replace e547 : KpP QO QF QA QO541 QF542 QA543 p0.toNatClampNeg := e547
        have hkp := hkp.tr e547
        replace e548 : (mf540 0).toInt = (mf 0).toInt := e548
        replace e549 : (mf540 2).toInt = (mf 2).toInt := e549
        replace e550 : (mf540 3).toInt = (mf 3).toInt := e550
        replace e551 : (mf540 7).toInt = (mf 7).toInt := e551
        replace e552 : (mf540 8).toInt = (mf 8).toInt := e552
        replace e553 : (mf540 10).toInt = (mf 10).toInt := e553
        replace e554 : 0 ≤ v545.toInt := e554
        replace e555 : v545.toInt ≤ 1 := e555
        replace hw : pw D A s.heap H locs [wd_Mo cs mo mr (fun _ => none) mf540 md (gMo PG hq), fm 13 (fPr cs hq qr QO541 QF542 QA543), fm 8 (fPg cs PG)] := hw
        have lv545 := Int32.le_toInt v545
        have uv545 := Int32.toInt_lt v545
        refine lv_istore (lv' := [(6, .int v545), (7, .int 1), (5, .int z369), (4, .int z4), (3, .ref (hq p0.toNatClampNeg)), (0, .ref mo), (1, .int p0), (2, .int p1)]) S.x S.b d_Mo_ownCall_153 hl (by decide) rfl (fun ls hl => ?_)
        refine lv_goto (tgt := 241) S.x S.b d_Mo_ownCall_155 (by decide) ?_
        refine lv_iload S.x S.b d_Mo_ownCall_241 (lv_at hl 0 rfl) ?_
        refine lv_if_eq (tgt := 265) S.x S.b d_Mo_ownCall_243 (by decide) (fun c556 => ?_) (fun c556 => ?_)
        · have nc556 : v545.toInt = (0 : Int) := (i_eq (x := v545) (y := 0)).mp c556
          refine lv_iload S.x S.b d_Mo_ownCall_265 (lv_at hl 0 rfl) ?_
          exact px_iret (v := v545) S hr (z_nar (by omega)) hlk hAe hw (Nat.le_of_ble_eq_true rfl) (Nat.le_of_ble_eq_true rfl) (⟨mf540, md, QO541, QF542, QA543, rfl, (show 0 ≤ v545.toInt from by first | exact e554 | omega), (show v545.toInt ≤ 1 from by first | exact e555 | omega), (show OwQ v545.toInt (PrA PG RR QO541 QF542 QA543) (PrX PG RR QO541 QF542 QA543 p0.toNatClampNeg ∧ PdT (PG j9) (RR p0.toNatClampNeg) (QF542 p0.toNatClampNeg) (QA543 p0.toNatClampNeg)) from (Or.inl ⟨by omega, hpr⟩)), (show KpO QO QF QO541 QF542 p0.toNatClampNeg from hkp.o), (show (mf540 0).toInt = (mf 0).toInt from by first | exact e548 | omega), (show (mf540 2).toInt = (mf 2).toInt from by first | exact e549 | omega), (show (mf540 3).toInt = (mf 3).toInt from by first | exact e550 | omega), (show (mf540 7).toInt = (mf 7).toInt from by first | exact e551 | omega), (show (mf540 8).toInt = (mf 8).toInt from by first | exact e552 | omega), (show (mf540 10).toInt = (mf 10).toInt from by first | exact e553 | omega)⟩) d_Mo_ownCall_267
        · have nc556 : ¬ v545.toInt = (0 : Int) := mt (i_eq (x := v545) (y := 0)).mpr c556
          refine lv_aload_n S.x S.b d_Mo_ownCall_246 rfl (lv_at hl 4 rfl) ?_
          have hkf := hkp.2.1; unfold KpF at hkf
          refine lv_aload_n S.x S.b d_Mo_ownCall_247 rfl (lv_at hl 4 rfl) ?_
          have hw : pw D A s.heap _ _ [wd_Mo cs mo mr (fun _ => none) mf540 md (gMo PG hq), fm 8 (fPg cs PG), fm 13 (fPr cs hq qr QO541 QF542 QA543)] := hw.sub [0, 2, 1] rfl rfl
          have hc557 := cl_nat (x := p0) (by first | exact g0 | omega)
          have hi557 : p0.toNatClampNeg < 13 := by first | exact hi1 | omega
          have hw : pw D A s.heap _ _ [wd_Mo cs mo mr (fun _ => none) mf540 md (gMo PG hq), fm 8 (fPg cs PG), fo 13 (fPr cs hq qr QO541 QF542 QA543) p0.toNatClampNeg, wd_Mpr cs (hq p0.toNatClampNeg) (qr p0.toNatClampNeg) (fun _ => QO541 p0.toNatClampNeg) (QF542 p0.toNatClampNeg) (QA543 p0.toNatClampNeg) (fun _ _ => none)] := fm_out (pr := [wd_Mo cs mo mr (fun _ => none) mf540 md (gMo PG hq), fm 8 (fPg cs PG)]) (T := fPr cs hq qr QO541 QF542 QA543) hw hi557
          have hps557 := hpr.1 p0.toNatClampNeg hi557
          have hpb557 := hps557.1
          unfold PsB at hpb557
          refine px_get S k_Mpr hT hw 3 0 10 (v := .int ((QF542 p0.toNatClampNeg) 10)) rfl rfl rfl (by decide) m11_1 d_Mo_ownCall_248 ?_
          refine lv_iload S.x S.b d_Mo_ownCall_251 (lv_at hl 1 rfl) ?_
          refine lv_isub S.x S.b d_Mo_ownCall_253 ?_
          have lr558 := Int32.le_toInt ((QF542 p0.toNatClampNeg) 10)
          have ur558 := Int32.toInt_lt ((QF542 p0.toNatClampNeg) 10)
          refine lv_topi (fun z559 ez559 => ?_)
          have tz559 : z559.toInt = (((QF542 p0.toNatClampNeg) 10).toInt - (1 : Int) + 2147483648) % 4294967296 - 2147483648 := by rw [ez559]; exact i_sub ((QF542 p0.toNatClampNeg) 10) 1
          have lz559 := Int32.le_toInt z559
          have uz559 := Int32.toInt_lt z559
          try replace tz559 : z559.toInt = ((QF542 p0.toNatClampNeg) 10).toInt - (1 : Int) := by omega
          refine px_put S k_Mpr hT hw 3 0 10 rfl rfl (by decide) m11_1 rfl rfl rfl (Nat.le_of_ble_eq_true rfl) d_Mo_ownCall_254 (w' := wd_Mpr cs (hq p0.toNatClampNeg) (qr p0.toNatClampNeg) (fun _ => QO541 p0.toNatClampNeg) (upd (QF542 p0.toNatClampNeg) 10 z559) (QA543 p0.toNatClampNeg) (fun _ _ => none)) (ps' := [wd_Mo cs mo mr (fun _ => none) mf540 md (gMo PG hq), fm 8 (fPg cs PG), fo 13 (fPr cs hq qr QO541 QF542 QA543) p0.toNatClampNeg, wd_Mpr cs (hq p0.toNatClampNeg) (qr p0.toNatClampNeg) (fun _ => QO541 p0.toNatClampNeg) (upd (QF542 p0.toNatClampNeg) 10 z559) (QA543 p0.toNatClampNeg) (fun _ _ => none)]) rfl rfl (fun H locs hw => ?_)
          refine lv_aload_n S.x S.b d_Mo_ownCall_257 rfl (lv_at hl 4 rfl) ?_
          refine lv_aload_n S.x S.b d_Mo_ownCall_258 rfl (lv_at hl 5 rfl) ?_
          refine px_get S k_Mo hT hw 0 0 9 (v := .int (mf540 9)) rfl rfl rfl (by decide) m11_87 d_Mo_ownCall_259 ?_
          refine px_callv (pr := [wd_Mo cs mo mr (fun _ => none) mf540 md (gMo PG hq), fm 8 (fPg cs PG), fo 13 (fPr cs hq qr QO541 QF542 QA543) p0.toNatClampNeg]) (px_runV (As := [.int (mf540 9)]) (rest := []) S (c_mq_give l D cs (hq p0.toNatClampNeg) (qr p0.toNatClampNeg) (fun _ _ => none) (fun _ => QO541 p0.toNatClampNeg) (upd (QF542 p0.toNatClampNeg) 10 z559) (QA543 p0.toNatClampNeg) (mf540 9)  (show 0 ≤ z559.toInt from by first | with_reducible rfl | with_reducible assumption | omega) (show z559.toInt < 62500 from by first | with_reducible rfl | with_reducible assumption | omega) _) hT (pr := [wd_Mo cs mo mr (fun _ => none) mf540 md (gMo PG hq), fm 8 (fPg cs PG), fo 13 (fPr cs hq qr QO541 QF542 QA543) p0.toNatClampNeg]) (pcs := [wd_Mpr cs (hq p0.toNatClampNeg) (qr p0.toNatClampNeg) (fun _ => QO541 p0.toNatClampNeg) (upd (QF542 p0.toNatClampNeg) 10 z559) (QA543 p0.toNatClampNeg) (fun _ _ => none)]) hw px_X.tt (px_recv hT hw 3 0 rfl rfl rfl) m13_161 m14_111 m13_159 m13_160 m1_22 q_Mpr_give ⟨Nat.le_of_ble_eq_true rfl, Nat.le_of_ble_eq_true rfl⟩ hl.1 rfl (Nat.le_of_ble_eq_true rfl) d_Mo_ownCall_262 ⟨Nat.le_of_ble_eq_true rfl, Nat.le_of_ble_eq_true rfl⟩) hw hA (fun p564 H locs hp564 hw => ?_)
          obtain ⟨qf562, qa563, rfl, e566, e567, e568, e569, e570, e571, e572, e573, e574, e575, e576, e577, e578, e579, e580, e581⟩ := hp564
          replace e566 : (qf562 10).toInt = z559.toInt + 1 := e566
          replace e567 : (qf562 1).toInt = ((QF542 p0.toNatClampNeg) 1).toInt := e567
          replace e568 : (qf562 2).toInt = ((QF542 p0.toNatClampNeg) 2).toInt := e568
          replace e569 : (qf562 3).toInt = ((QF542 p0.toNatClampNeg) 3).toInt := e569
          replace e570 : (qf562 4).toInt = ((QF542 p0.toNatClampNeg) 4).toInt := e570
          replace e571 : (qf562 5).toInt = ((QF542 p0.toNatClampNeg) 5).toInt := e571
          replace e572 : (qf562 6).toInt = ((QF542 p0.toNatClampNeg) 6).toInt := e572
          replace e573 : (qf562 7).toInt = ((QF542 p0.toNatClampNeg) 7).toInt := e573
          replace e574 : (qf562 11).toInt = ((QF542 p0.toNatClampNeg) 11).toInt := e574
          replace e575 : (qf562 12).toInt = ((QF542 p0.toNatClampNeg) 12).toInt := e575
          replace e576 : (qf562 13).toInt = ((QF542 p0.toNatClampNeg) 13).toInt := e576
          replace e577 : (qf562 14).toInt = ((QF542 p0.toNatClampNeg) 14).toInt := e577
          replace e578 : (qf562 21).toInt = ((QF542 p0.toNatClampNeg) 21).toInt := e578
          replace e579 : (qf562 23).toInt = ((QF542 p0.toNatClampNeg) 23).toInt := e579
          replace e580 : (qf562 24).toInt = ((QF542 p0.toNatClampNeg) 24).toInt := e580
          replace e581 : NuU (QA543 p0.toNatClampNeg) qa563 9 z559.toInt (mf540 9) := e581
          skip
          replace hw : pw D A s.heap H locs [wd_Mo cs mo mr (fun _ => none) mf540 md (gMo PG hq), fm 8 (fPg cs PG), fo 13 (fPr cs hq qr QO541 QF542 QA543) p0.toNatClampNeg, wd_Mpr cs (hq p0.toNatClampNeg) (qr p0.toNatClampNeg) (fun _ => QO541 p0.toNatClampNeg) qf562 qa563 (fun _ _ => none)] := hw
          refine lv_iload S.x S.b d_Mo_ownCall_265 (lv_at hl 0 rfl) ?_
          have hw := fpr_in (pr := [wd_Mo cs mo mr (fun _ => none) mf540 md (gMo PG hq), fm 8 (fPg cs PG)]) hw hi557
          obtain ⟨QO582, hu_QO582⟩ : ∃ y : Nat → Option Nat, y = va_up QO541 p0.toNatClampNeg ((fun _ => QO541 p0.toNatClampNeg) 0) := ⟨_, rfl⟩
          obtain ⟨QF583, hu_QF583⟩ : ∃ y : Nat → Nat → Int32, y = va_up QF542 p0.toNatClampNeg qf562 := ⟨_, rfl⟩
          obtain ⟨QA584, hu_QA584⟩ : ∃ y : Nat → Nat → Nat → Int32, y = va_up QA543 p0.toNatClampNeg qa563 := ⟨_, rfl⟩
          have hw : pw D A s.heap _ _ [wd_Mo cs mo mr (fun _ => none) mf540 md (gMo PG hq), fm 8 (fPg cs PG), fm 13 (fPr cs hq qr QO582 QF583 QA584)] := (by rw [hu_QO582, hu_QF583, hu_QA584]; exact hw)
          have hpx : PrX PG RR QO582 QF583 QA584 p0.toNatClampNeg := (by rw [hu_QO582, hu_QF583, hu_QA584]; exact PrX.up (hpr.px hi557) (show (0 ≤ (qf562 1).toInt ∧ (qf562 1).toInt ≤ 1) ∧ (0 ≤ (qf562 21).toInt ∧ (qf562 21).toInt ≤ 4) ∧ (0 ≤ (qf562 23).toInt ∧ (qf562 23).toInt ≤ 4) ∧ (0 ≤ (qf562 24).toInt ∧ (qf562 24).toInt ≤ 1000000) ∧ (0 ≤ (qf562 6).toInt ∧ (qf562 6).toInt ≤ 3) ∧ (0 ≤ (qf562 7).toInt ∧ (qf562 7).toInt ≤ 1) from by first | with_reducible rfl | with_reducible assumption | omega) (show (qf562 1).toInt = (QF542 p0.toNatClampNeg 1).toInt from by first | exact oz_1811ac7fe4 e567 | omega) (show (QF542 p0.toNatClampNeg 6).toInt ≤ (qf562 6).toInt from by first | exact oz_f9b42d1b56 e572 | omega))
          have hpd : PdT (PG j9) (RR p0.toNatClampNeg) (QF583 p0.toNatClampNeg) (QA584 p0.toNatClampNeg) := (by rw [hu_QF583, hu_QA584, va_up_s, va_up_s]; exact PoT.ans hpo (show (qf562 4).toInt = (QF p0.toNatClampNeg 4).toInt ∧ (qf562 5).toInt = (QF p0.toNatClampNeg 5).toInt ∧ (qf562 11).toInt = (QF p0.toNatClampNeg 11).toInt ∧ (qf562 12).toInt = (QF p0.toNatClampNeg 12).toInt ∧ (qf562 13).toInt = (QF p0.toNatClampNeg 13).toInt ∧ (qf562 14).toInt = (QF p0.toNatClampNeg 14).toInt from by first | with_reducible rfl | with_reducible assumption | omega) (show (qf562 10).toInt = (QF p0.toNatClampNeg 10).toInt - ((oslots p1.toInt).length : Int) + 1 from by first | with_reducible rfl | with_reducible assumption | omega) (show (qf562 24).toInt = (QF p0.toNatClampNeg 24).toInt ∨ (p1.toInt = 1 ∧ (qf562 24).toInt = (QF p0.toNatClampNeg 24).toInt + 1) from by first | with_reducible rfl | with_reducible assumption | omega) (fun i9 q9 => absurd (by rw [hkp.2.2 8 (by decide) (by decide)]) q9) (fun k9 a9 b9 c9 d9 => hkp.2.2 k9 b9 c9) (show NuU _ _ 9 ((QF p0.toNatClampNeg 10).toInt - ((oslots p1.toInt).length : Int)) _ from (by have q8 := e581; rw [show (z559.toInt) = (QF p0.toNatClampNeg 10).toInt - ((oslots p1.toInt).length : Int) by omega] at q8; exact q8)))
          have hko : KpO QO QF QO582 QF583 p0.toNatClampNeg := (by rw [hu_QO582, hu_QF583]; refine ⟨by rw [va_up_s]; first | done | exact hkp.1, ?_⟩; rw [va_up_s]; exact (show (qf562 1).toInt = (QF p0.toNatClampNeg 1).toInt ∧ (qf562 7).toInt = (QF p0.toNatClampNeg 7).toInt ∧ (qf562 11).toInt = (QF p0.toNatClampNeg 11).toInt from by first | with_reducible rfl | with_reducible assumption | omega))
          have hw : pw D A s.heap _ _ [wd_Mo cs mo mr (fun _ => none) mf540 md (gMo PG hq), fm 13 (fPr cs hq qr QO582 QF583 QA584), fm 8 (fPg cs PG)] := hw.sub [0, 2, 1] rfl rfl
          exact px_iret (v := v545) S hr (z_nar (by omega)) hlk hAe hw (Nat.le_of_ble_eq_true rfl) (Nat.le_of_ble_eq_true rfl) (⟨mf540, md, QO582, QF583, QA584, rfl, (show 0 ≤ v545.toInt from by first | exact e554 | omega), (show v545.toInt ≤ 1 from by first | exact e555 | omega), (show OwQ v545.toInt (PrA PG RR QO582 QF583 QA584) (PrX PG RR QO582 QF583 QA584 p0.toNatClampNeg ∧ PdT (PG j9) (RR p0.toNatClampNeg) (QF583 p0.toNatClampNeg) (QA584 p0.toNatClampNeg)) from (Or.inr ⟨by omega, hpx, hpd⟩)), (show KpO QO QF QO582 QF583 p0.toNatClampNeg from hko), (show (mf540 0).toInt = (mf 0).toInt from by first | exact e548 | omega), (show (mf540 2).toInt = (mf 2).toInt from by first | exact e549 | omega), (show (mf540 3).toInt = (mf 3).toInt from by first | exact e550 | omega), (show (mf540 7).toInt = (mf 7).toInt from by first | exact e551 | omega), (show (mf540 8).toInt = (mf 8).toInt from by first | exact e552 | omega), (show (mf540 10).toInt = (mf 10).toInt from by first | exact e553 | omega)⟩) d_Mo_ownCall_267
      · simp only [List.mem_cons, List.not_mem_nil, or_false] at c416
        refine lv_aload_n S.x S.b d_Mo_ownCall_158 rfl (lv_at hl 5 rfl) ?_
        refine lv_iload_n S.x S.b d_Mo_ownCall_159 rfl (lv_at hl 6 rfl) ?_
        refine lv_iload S.x S.b d_Mo_ownCall_160 (lv_at hl 3 rfl) ?_
        have hw : pw D A s.heap _ _ [wd_Mo cs mo mr (fun _ => none) (upd mf 9 0) md (gMo PG hq), fm 8 (fPg cs PG), fm 13 (fPr cs hq qr QO QF QA)] := fm_back (pr := [wd_Mo cs mo mr (fun _ => none) (upd mf 9 0) md (gMo PG hq), fm 8 (fPg cs PG)]) (T := fPr cs hq qr QO QF QA) hw hi1
        have hw : pw D A s.heap _ _ [wd_Mo cs mo mr (fun _ => none) (upd mf 9 0) md (gMo PG hq), fm 13 (fPr cs hq qr QO QF QA), fm 8 (fPg cs PG)] := hw.sub [0, 2, 1] rfl rfl
        refine px_calli (pr := []) (px_runV (As := [.int p0, .int z4]) (rest := []) S (c_mo_asksMore l D cs RR mo mr md (upd mf 9 0) hq qr QO QF QA PG p0 z4  (show 0 ≤ p0.toInt from by first | exact g0 | omega) (show p0.toInt < 13 from by first | exact g1 | omega) hpr hpg _) hT (pr := []) (pcs := [wd_Mo cs mo mr (fun _ => none) (upd mf 9 0) md (gMo PG hq), fm 13 (fPr cs hq qr QO QF QA), fm 8 (fPg cs PG)]) hw px_X.tt (px_recv hT hw 0 0 rfl rfl rfl) m14_78 m14_75 m14_77 ms_16_4 m1_20 q_Mo_asksMore ⟨Nat.le_of_ble_eq_true rfl, Nat.le_of_ble_eq_true rfl⟩ hl.1 rfl (Nat.le_of_ble_eq_true rfl) d_Mo_ownCall_162 ⟨Nat.le_of_ble_eq_true rfl, Nat.le_of_ble_eq_true rfl⟩) hw hA (fun v594 p593 H locs hp593 hw => ?_)
        obtain ⟨mf589, QO590, QF591, QA592, rfl, e595, e596, e597, e598, e599, e600, e601, e602, e603, e604⟩ := hp593
        replace e595 : PrA PG RR QO590 QF591 QA592 := e595
        have hpr := e595
        replace e596 : KpP QO QF QA QO590 QF591 QA592 p0.toNatClampNeg := e596
        have hkp := hkp.tr e596
        replace e597 : (mf589 0).toInt = (mf 0).toInt := e597
        replace e598 : (mf589 2).toInt = (mf 2).toInt := e598
        replace e599 : (mf589 3).toInt = (mf 3).toInt := e599
        replace e600 : (mf589 7).toInt = (mf 7).toInt := e600
        replace e601 : (mf589 8).toInt = (mf 8).toInt := e601
        replace e602 : (mf589 10).toInt = (mf 10).toInt := e602
        replace e603 : 0 ≤ v594.toInt := e603
        replace e604 : v594.toInt ≤ 1 := e604
        replace hw : pw D A s.heap H locs [wd_Mo cs mo mr (fun _ => none) mf589 md (gMo PG hq), fm 13 (fPr cs hq qr QO590 QF591 QA592), fm 8 (fPg cs PG)] := hw
        have lv594 := Int32.le_toInt v594
        have uv594 := Int32.toInt_lt v594
        refine lv_istore (lv' := [(6, .int v594), (7, .int 1), (5, .int z369), (4, .int z4), (3, .ref (hq p0.toNatClampNeg)), (0, .ref mo), (1, .int p0), (2, .int p1)]) S.x S.b d_Mo_ownCall_165 hl (by decide) rfl (fun ls hl => ?_)
        refine lv_goto (tgt := 241) S.x S.b d_Mo_ownCall_167 (by decide) ?_
        refine lv_iload S.x S.b d_Mo_ownCall_241 (lv_at hl 0 rfl) ?_
        refine lv_if_eq (tgt := 265) S.x S.b d_Mo_ownCall_243 (by decide) (fun c605 => ?_) (fun c605 => ?_)
        · have nc605 : v594.toInt = (0 : Int) := (i_eq (x := v594) (y := 0)).mp c605
          refine lv_iload S.x S.b d_Mo_ownCall_265 (lv_at hl 0 rfl) ?_
          exact px_iret (v := v594) S hr (z_nar (by omega)) hlk hAe hw (Nat.le_of_ble_eq_true rfl) (Nat.le_of_ble_eq_true rfl) (⟨mf589, md, QO590, QF591, QA592, rfl, (show 0 ≤ v594.toInt from by first | exact e603 | omega), (show v594.toInt ≤ 1 from by first | exact e604 | omega), (show OwQ v594.toInt (PrA PG RR QO590 QF591 QA592) (PrX PG RR QO590 QF591 QA592 p0.toNatClampNeg ∧ PdT (PG j9) (RR p0.toNatClampNeg) (QF591 p0.toNatClampNeg) (QA592 p0.toNatClampNeg)) from (Or.inl ⟨by omega, hpr⟩)), (show KpO QO QF QO590 QF591 p0.toNatClampNeg from hkp.o), (show (mf589 0).toInt = (mf 0).toInt from by first | exact e597 | omega), (show (mf589 2).toInt = (mf 2).toInt from by first | exact e598 | omega), (show (mf589 3).toInt = (mf 3).toInt from by first | exact e599 | omega), (show (mf589 7).toInt = (mf 7).toInt from by first | exact e600 | omega), (show (mf589 8).toInt = (mf 8).toInt from by first | exact e601 | omega), (show (mf589 10).toInt = (mf 10).toInt from by first | exact e602 | omega)⟩) d_Mo_ownCall_267
        · have nc605 : ¬ v594.toInt = (0 : Int) := mt (i_eq (x := v594) (y := 0)).mpr c605
          refine lv_aload_n S.x S.b d_Mo_ownCall_246 rfl (lv_at hl 4 rfl) ?_
          have hkf := hkp.2.1; unfold KpF at hkf
          refine lv_aload_n S.x S.b d_Mo_ownCall_247 rfl (lv_at hl 4 rfl) ?_
          have hw : pw D A s.heap _ _ [wd_Mo cs mo mr (fun _ => none) mf589 md (gMo PG hq), fm 8 (fPg cs PG), fm 13 (fPr cs hq qr QO590 QF591 QA592)] := hw.sub [0, 2, 1] rfl rfl
          have hc606 := cl_nat (x := p0) (by first | exact g0 | omega)
          have hi606 : p0.toNatClampNeg < 13 := by first | exact hi1 | omega
          have hw : pw D A s.heap _ _ [wd_Mo cs mo mr (fun _ => none) mf589 md (gMo PG hq), fm 8 (fPg cs PG), fo 13 (fPr cs hq qr QO590 QF591 QA592) p0.toNatClampNeg, wd_Mpr cs (hq p0.toNatClampNeg) (qr p0.toNatClampNeg) (fun _ => QO590 p0.toNatClampNeg) (QF591 p0.toNatClampNeg) (QA592 p0.toNatClampNeg) (fun _ _ => none)] := fm_out (pr := [wd_Mo cs mo mr (fun _ => none) mf589 md (gMo PG hq), fm 8 (fPg cs PG)]) (T := fPr cs hq qr QO590 QF591 QA592) hw hi606
          have hps606 := hpr.1 p0.toNatClampNeg hi606
          have hpb606 := hps606.1
          unfold PsB at hpb606
          refine px_get S k_Mpr hT hw 3 0 10 (v := .int ((QF591 p0.toNatClampNeg) 10)) rfl rfl rfl (by decide) m11_1 d_Mo_ownCall_248 ?_
          refine lv_iload S.x S.b d_Mo_ownCall_251 (lv_at hl 1 rfl) ?_
          refine lv_isub S.x S.b d_Mo_ownCall_253 ?_
          have lr607 := Int32.le_toInt ((QF591 p0.toNatClampNeg) 10)
          have ur607 := Int32.toInt_lt ((QF591 p0.toNatClampNeg) 10)
          refine lv_topi (fun z608 ez608 => ?_)
          have tz608 : z608.toInt = (((QF591 p0.toNatClampNeg) 10).toInt - (1 : Int) + 2147483648) % 4294967296 - 2147483648 := by rw [ez608]; exact i_sub ((QF591 p0.toNatClampNeg) 10) 1
          have lz608 := Int32.le_toInt z608
          have uz608 := Int32.toInt_lt z608
          try replace tz608 : z608.toInt = ((QF591 p0.toNatClampNeg) 10).toInt - (1 : Int) := by omega
          refine px_put S k_Mpr hT hw 3 0 10 rfl rfl (by decide) m11_1 rfl rfl rfl (Nat.le_of_ble_eq_true rfl) d_Mo_ownCall_254 (w' := wd_Mpr cs (hq p0.toNatClampNeg) (qr p0.toNatClampNeg) (fun _ => QO590 p0.toNatClampNeg) (upd (QF591 p0.toNatClampNeg) 10 z608) (QA592 p0.toNatClampNeg) (fun _ _ => none)) (ps' := [wd_Mo cs mo mr (fun _ => none) mf589 md (gMo PG hq), fm 8 (fPg cs PG), fo 13 (fPr cs hq qr QO590 QF591 QA592) p0.toNatClampNeg, wd_Mpr cs (hq p0.toNatClampNeg) (qr p0.toNatClampNeg) (fun _ => QO590 p0.toNatClampNeg) (upd (QF591 p0.toNatClampNeg) 10 z608) (QA592 p0.toNatClampNeg) (fun _ _ => none)]) rfl rfl (fun H locs hw => ?_)
          refine lv_aload_n S.x S.b d_Mo_ownCall_257 rfl (lv_at hl 4 rfl) ?_
          refine lv_aload_n S.x S.b d_Mo_ownCall_258 rfl (lv_at hl 5 rfl) ?_
          refine px_get S k_Mo hT hw 0 0 9 (v := .int (mf589 9)) rfl rfl rfl (by decide) m11_87 d_Mo_ownCall_259 ?_
          refine px_callv (pr := [wd_Mo cs mo mr (fun _ => none) mf589 md (gMo PG hq), fm 8 (fPg cs PG), fo 13 (fPr cs hq qr QO590 QF591 QA592) p0.toNatClampNeg]) (px_runV (As := [.int (mf589 9)]) (rest := []) S (c_mq_give l D cs (hq p0.toNatClampNeg) (qr p0.toNatClampNeg) (fun _ _ => none) (fun _ => QO590 p0.toNatClampNeg) (upd (QF591 p0.toNatClampNeg) 10 z608) (QA592 p0.toNatClampNeg) (mf589 9)  (show 0 ≤ z608.toInt from by first | with_reducible rfl | with_reducible assumption | omega) (show z608.toInt < 62500 from by first | with_reducible rfl | with_reducible assumption | omega) _) hT (pr := [wd_Mo cs mo mr (fun _ => none) mf589 md (gMo PG hq), fm 8 (fPg cs PG), fo 13 (fPr cs hq qr QO590 QF591 QA592) p0.toNatClampNeg]) (pcs := [wd_Mpr cs (hq p0.toNatClampNeg) (qr p0.toNatClampNeg) (fun _ => QO590 p0.toNatClampNeg) (upd (QF591 p0.toNatClampNeg) 10 z608) (QA592 p0.toNatClampNeg) (fun _ _ => none)]) hw px_X.tt (px_recv hT hw 3 0 rfl rfl rfl) m13_161 m14_111 m13_159 m13_160 m1_22 q_Mpr_give ⟨Nat.le_of_ble_eq_true rfl, Nat.le_of_ble_eq_true rfl⟩ hl.1 rfl (Nat.le_of_ble_eq_true rfl) d_Mo_ownCall_262 ⟨Nat.le_of_ble_eq_true rfl, Nat.le_of_ble_eq_true rfl⟩) hw hA (fun p613 H locs hp613 hw => ?_)
          obtain ⟨qf611, qa612, rfl, e615, e616, e617, e618, e619, e620, e621, e622, e623, e624, e625, e626, e627, e628, e629, e630⟩ := hp613
          replace e615 : (qf611 10).toInt = z608.toInt + 1 := e615
          replace e616 : (qf611 1).toInt = ((QF591 p0.toNatClampNeg) 1).toInt := e616
          replace e617 : (qf611 2).toInt = ((QF591 p0.toNatClampNeg) 2).toInt := e617
          replace e618 : (qf611 3).toInt = ((QF591 p0.toNatClampNeg) 3).toInt := e618
          replace e619 : (qf611 4).toInt = ((QF591 p0.toNatClampNeg) 4).toInt := e619
          replace e620 : (qf611 5).toInt = ((QF591 p0.toNatClampNeg) 5).toInt := e620
          replace e621 : (qf611 6).toInt = ((QF591 p0.toNatClampNeg) 6).toInt := e621
          replace e622 : (qf611 7).toInt = ((QF591 p0.toNatClampNeg) 7).toInt := e622
          replace e623 : (qf611 11).toInt = ((QF591 p0.toNatClampNeg) 11).toInt := e623
          replace e624 : (qf611 12).toInt = ((QF591 p0.toNatClampNeg) 12).toInt := e624
          replace e625 : (qf611 13).toInt = ((QF591 p0.toNatClampNeg) 13).toInt := e625
          replace e626 : (qf611 14).toInt = ((QF591 p0.toNatClampNeg) 14).toInt := e626
          replace e627 : (qf611 21).toInt = ((QF591 p0.toNatClampNeg) 21).toInt := e627
          replace e628 : (qf611 23).toInt = ((QF591 p0.toNatClampNeg) 23).toInt := e628
          replace e629 : (qf611 24).toInt = ((QF591 p0.toNatClampNeg) 24).toInt := e629
          replace e630 : NuU (QA592 p0.toNatClampNeg) qa612 9 z608.toInt (mf589 9) := e630
          skip
          replace hw : pw D A s.heap H locs [wd_Mo cs mo mr (fun _ => none) mf589 md (gMo PG hq), fm 8 (fPg cs PG), fo 13 (fPr cs hq qr QO590 QF591 QA592) p0.toNatClampNeg, wd_Mpr cs (hq p0.toNatClampNeg) (qr p0.toNatClampNeg) (fun _ => QO590 p0.toNatClampNeg) qf611 qa612 (fun _ _ => none)] := hw
          refine lv_iload S.x S.b d_Mo_ownCall_265 (lv_at hl 0 rfl) ?_
          have hw := fpr_in (pr := [wd_Mo cs mo mr (fun _ => none) mf589 md (gMo PG hq), fm 8 (fPg cs PG)]) hw hi606
          obtain ⟨QO631, hu_QO631⟩ : ∃ y : Nat → Option Nat, y = va_up QO590 p0.toNatClampNeg ((fun _ => QO590 p0.toNatClampNeg) 0) := ⟨_, rfl⟩
          obtain ⟨QF632, hu_QF632⟩ : ∃ y : Nat → Nat → Int32, y = va_up QF591 p0.toNatClampNeg qf611 := ⟨_, rfl⟩
          obtain ⟨QA633, hu_QA633⟩ : ∃ y : Nat → Nat → Nat → Int32, y = va_up QA592 p0.toNatClampNeg qa612 := ⟨_, rfl⟩
          have hw : pw D A s.heap _ _ [wd_Mo cs mo mr (fun _ => none) mf589 md (gMo PG hq), fm 8 (fPg cs PG), fm 13 (fPr cs hq qr QO631 QF632 QA633)] := (by rw [hu_QO631, hu_QF632, hu_QA633]; exact hw)
          have hpx : PrX PG RR QO631 QF632 QA633 p0.toNatClampNeg := (by rw [hu_QO631, hu_QF632, hu_QA633]; exact PrX.up (hpr.px hi606) (show (0 ≤ (qf611 1).toInt ∧ (qf611 1).toInt ≤ 1) ∧ (0 ≤ (qf611 21).toInt ∧ (qf611 21).toInt ≤ 4) ∧ (0 ≤ (qf611 23).toInt ∧ (qf611 23).toInt ≤ 4) ∧ (0 ≤ (qf611 24).toInt ∧ (qf611 24).toInt ≤ 1000000) ∧ (0 ≤ (qf611 6).toInt ∧ (qf611 6).toInt ≤ 3) ∧ (0 ≤ (qf611 7).toInt ∧ (qf611 7).toInt ≤ 1) from by first | with_reducible rfl | with_reducible assumption | omega) (show (qf611 1).toInt = (QF591 p0.toNatClampNeg 1).toInt from by first | exact oz_1811ac7fe4 e616 | omega) (show (QF591 p0.toNatClampNeg 6).toInt ≤ (qf611 6).toInt from by first | exact oz_f9b42d1b56 e621 | omega))
          have hpd : PdT (PG j9) (RR p0.toNatClampNeg) (QF632 p0.toNatClampNeg) (QA633 p0.toNatClampNeg) := (by rw [hu_QF632, hu_QA633, va_up_s, va_up_s]; exact PoT.ans hpo (show (qf611 4).toInt = (QF p0.toNatClampNeg 4).toInt ∧ (qf611 5).toInt = (QF p0.toNatClampNeg 5).toInt ∧ (qf611 11).toInt = (QF p0.toNatClampNeg 11).toInt ∧ (qf611 12).toInt = (QF p0.toNatClampNeg 12).toInt ∧ (qf611 13).toInt = (QF p0.toNatClampNeg 13).toInt ∧ (qf611 14).toInt = (QF p0.toNatClampNeg 14).toInt from by first | with_reducible rfl | with_reducible assumption | omega) (show (qf611 10).toInt = (QF p0.toNatClampNeg 10).toInt - ((oslots p1.toInt).length : Int) + 1 from by first | with_reducible rfl | with_reducible assumption | omega) (show (qf611 24).toInt = (QF p0.toNatClampNeg 24).toInt ∨ (p1.toInt = 1 ∧ (qf611 24).toInt = (QF p0.toNatClampNeg 24).toInt + 1) from by first | with_reducible rfl | with_reducible assumption | omega) (fun i9 q9 => absurd (by rw [hkp.2.2 8 (by decide) (by decide)]) q9) (fun k9 a9 b9 c9 d9 => hkp.2.2 k9 b9 c9) (show NuU _ _ 9 ((QF p0.toNatClampNeg 10).toInt - ((oslots p1.toInt).length : Int)) _ from (by have q8 := e630; rw [show (z608.toInt) = (QF p0.toNatClampNeg 10).toInt - ((oslots p1.toInt).length : Int) by omega] at q8; exact q8)))
          have hko : KpO QO QF QO631 QF632 p0.toNatClampNeg := (by rw [hu_QO631, hu_QF632]; refine ⟨by rw [va_up_s]; first | done | exact hkp.1, ?_⟩; rw [va_up_s]; exact (show (qf611 1).toInt = (QF p0.toNatClampNeg 1).toInt ∧ (qf611 7).toInt = (QF p0.toNatClampNeg 7).toInt ∧ (qf611 11).toInt = (QF p0.toNatClampNeg 11).toInt from by first | with_reducible rfl | with_reducible assumption | omega))
          have hw : pw D A s.heap _ _ [wd_Mo cs mo mr (fun _ => none) mf589 md (gMo PG hq), fm 13 (fPr cs hq qr QO631 QF632 QA633), fm 8 (fPg cs PG)] := hw.sub [0, 2, 1] rfl rfl
          exact px_iret (v := v594) S hr (z_nar (by omega)) hlk hAe hw (Nat.le_of_ble_eq_true rfl) (Nat.le_of_ble_eq_true rfl) (⟨mf589, md, QO631, QF632, QA633, rfl, (show 0 ≤ v594.toInt from by first | exact e603 | omega), (show v594.toInt ≤ 1 from by first | exact e604 | omega), (show OwQ v594.toInt (PrA PG RR QO631 QF632 QA633) (PrX PG RR QO631 QF632 QA633 p0.toNatClampNeg ∧ PdT (PG j9) (RR p0.toNatClampNeg) (QF632 p0.toNatClampNeg) (QA633 p0.toNatClampNeg)) from (Or.inr ⟨by omega, hpx, hpd⟩)), (show KpO QO QF QO631 QF632 p0.toNatClampNeg from hko), (show (mf589 0).toInt = (mf 0).toInt from by first | exact e597 | omega), (show (mf589 2).toInt = (mf 2).toInt from by first | exact e598 | omega), (show (mf589 3).toInt = (mf 3).toInt from by first | exact e599 | omega), (show (mf589 7).toInt = (mf 7).toInt from by first | exact e600 | omega), (show (mf589 8).toInt = (mf 8).toInt from by first | exact e601 | omega), (show (mf589 10).toInt = (mf 10).toInt from by first | exact e602 | omega)⟩) d_Mo_ownCall_267
      · simp only [List.mem_cons, List.not_mem_nil, or_false] at c416
        refine lv_aload_n S.x S.b d_Mo_ownCall_170 rfl (lv_at hl 5 rfl) ?_
        refine lv_iload_n S.x S.b d_Mo_ownCall_171 rfl (lv_at hl 6 rfl) ?_
        refine lv_iload S.x S.b d_Mo_ownCall_172 (lv_at hl 2 rfl) ?_
        refine lv_iload S.x S.b d_Mo_ownCall_174 (lv_at hl 3 rfl) ?_
        have hw : pw D A s.heap _ _ [wd_Mo cs mo mr (fun _ => none) (upd mf 9 0) md (gMo PG hq), fm 8 (fPg cs PG), fm 13 (fPr cs hq qr QO QF QA)] := fm_back (pr := [wd_Mo cs mo mr (fun _ => none) (upd mf 9 0) md (gMo PG hq), fm 8 (fPg cs PG)]) (T := fPr cs hq qr QO QF QA) hw hi1
        have hw : pw D A s.heap _ _ [wd_Mo cs mo mr (fun _ => none) (upd mf 9 0) md (gMo PG hq), fm 13 (fPr cs hq qr QO QF QA), fm 8 (fPg cs PG)] := hw.sub [0, 2, 1] rfl rfl
        refine px_callv (pr := []) (px_runV (As := [.int p0, .int z369, .int z4]) (rest := []) S (c_mo_spawns l D cs RR mo mr md (upd mf 9 0) hq qr QO QF QA PG p0 z369 z4  (show 0 ≤ p0.toInt from by first | exact g0 | omega) (show p0.toInt < 13 from by first | exact g1 | omega) (show 0 ≤ (mf 7).toInt from by first | exact g2 | omega) (show (mf 7).toInt ≤ 100 from by first | exact g3 | omega) (show 0 ≤ (mf 8).toInt from by first | exact g4 | omega) (show (mf 8).toInt ≤ 512 from by first | exact g5 | omega) (show (QF p0.toNatClampNeg 1).toInt = 1 from by first | exact g8 | omega) hpr hpg _) hT (pr := []) (pcs := [wd_Mo cs mo mr (fun _ => none) (upd mf 9 0) md (gMo PG hq), fm 13 (fPr cs hq qr QO QF QA), fm 8 (fPg cs PG)]) hw px_X.tt (px_recv hT hw 0 0 rfl rfl rfl) m14_82 m14_79 m14_81 ms_16_5 m1_20 q_Mo_spawns ⟨Nat.le_of_ble_eq_true rfl, Nat.le_of_ble_eq_true rfl⟩ hl.1 rfl (Nat.le_of_ble_eq_true rfl) d_Mo_ownCall_176 ⟨Nat.le_of_ble_eq_true rfl, Nat.le_of_ble_eq_true rfl⟩) hw hA (fun p642 H locs hp642 hw => ?_)
        obtain ⟨mf638, QO639, QF640, QA641, rfl, e644, e645, e646, e647, e648, e649, e650, e651⟩ := hp642
        replace e644 : PrA PG RR QO639 QF640 QA641 := e644
        have hpr := e644
        replace e645 : KpP QO QF QA QO639 QF640 QA641 p0.toNatClampNeg := e645
        have hkp := hkp.tr e645
        replace e646 : (mf638 0).toInt = (mf 0).toInt := e646
        replace e647 : (mf638 2).toInt = (mf 2).toInt := e647
        replace e648 : (mf638 3).toInt = (mf 3).toInt := e648
        replace e649 : (mf638 7).toInt = (mf 7).toInt := e649
        replace e650 : (mf638 8).toInt = (mf 8).toInt := e650
        replace e651 : (mf638 10).toInt = (mf 10).toInt := e651
        replace hw : pw D A s.heap H locs [wd_Mo cs mo mr (fun _ => none) mf638 md (gMo PG hq), fm 13 (fPr cs hq qr QO639 QF640 QA641), fm 8 (fPg cs PG)] := hw
        refine lv_iconst (v := 2) S.x S.b d_Mo_ownCall_179 (by decide) ?_
        refine lv_istore (lv' := [(7, .int 2), (6, .int 1), (5, .int z369), (4, .int z4), (3, .ref (hq p0.toNatClampNeg)), (0, .ref mo), (1, .int p0), (2, .int p1)]) S.x S.b d_Mo_ownCall_180 hl (by decide) rfl (fun ls hl => ?_)
        refine lv_goto (tgt := 241) S.x S.b d_Mo_ownCall_182 (by decide) ?_
        refine lv_iload S.x S.b d_Mo_ownCall_241 (lv_at hl 1 rfl) ?_
        refine lv_if_eq (tgt := 265) S.x S.b d_Mo_ownCall_243 (by decide) (fun c652 => ?_) (fun c652 => ?_)
        · exact absurd c652 (by decide)
        ·
          refine lv_aload_n S.x S.b d_Mo_ownCall_246 rfl (lv_at hl 4 rfl) ?_
          have hkf := hkp.2.1; unfold KpF at hkf
          refine lv_aload_n S.x S.b d_Mo_ownCall_247 rfl (lv_at hl 4 rfl) ?_
          have hw : pw D A s.heap _ _ [wd_Mo cs mo mr (fun _ => none) mf638 md (gMo PG hq), fm 8 (fPg cs PG), fm 13 (fPr cs hq qr QO639 QF640 QA641)] := hw.sub [0, 2, 1] rfl rfl
          have hc653 := cl_nat (x := p0) (by first | exact g0 | omega)
          have hi653 : p0.toNatClampNeg < 13 := by first | exact hi1 | omega
          have hw : pw D A s.heap _ _ [wd_Mo cs mo mr (fun _ => none) mf638 md (gMo PG hq), fm 8 (fPg cs PG), fo 13 (fPr cs hq qr QO639 QF640 QA641) p0.toNatClampNeg, wd_Mpr cs (hq p0.toNatClampNeg) (qr p0.toNatClampNeg) (fun _ => QO639 p0.toNatClampNeg) (QF640 p0.toNatClampNeg) (QA641 p0.toNatClampNeg) (fun _ _ => none)] := fm_out (pr := [wd_Mo cs mo mr (fun _ => none) mf638 md (gMo PG hq), fm 8 (fPg cs PG)]) (T := fPr cs hq qr QO639 QF640 QA641) hw hi653
          have hps653 := hpr.1 p0.toNatClampNeg hi653
          have hpb653 := hps653.1
          unfold PsB at hpb653
          refine px_get S k_Mpr hT hw 3 0 10 (v := .int ((QF640 p0.toNatClampNeg) 10)) rfl rfl rfl (by decide) m11_1 d_Mo_ownCall_248 ?_
          refine lv_iload S.x S.b d_Mo_ownCall_251 (lv_at hl 0 rfl) ?_
          refine lv_isub S.x S.b d_Mo_ownCall_253 ?_
          have lr654 := Int32.le_toInt ((QF640 p0.toNatClampNeg) 10)
          have ur654 := Int32.toInt_lt ((QF640 p0.toNatClampNeg) 10)
          refine lv_topi (fun z655 ez655 => ?_)
          have tz655 : z655.toInt = (((QF640 p0.toNatClampNeg) 10).toInt - (2 : Int) + 2147483648) % 4294967296 - 2147483648 := by rw [ez655]; exact i_sub ((QF640 p0.toNatClampNeg) 10) 2
          have lz655 := Int32.le_toInt z655
          have uz655 := Int32.toInt_lt z655
          try replace tz655 : z655.toInt = ((QF640 p0.toNatClampNeg) 10).toInt - (2 : Int) := by omega
          refine px_put S k_Mpr hT hw 3 0 10 rfl rfl (by decide) m11_1 rfl rfl rfl (Nat.le_of_ble_eq_true rfl) d_Mo_ownCall_254 (w' := wd_Mpr cs (hq p0.toNatClampNeg) (qr p0.toNatClampNeg) (fun _ => QO639 p0.toNatClampNeg) (upd (QF640 p0.toNatClampNeg) 10 z655) (QA641 p0.toNatClampNeg) (fun _ _ => none)) (ps' := [wd_Mo cs mo mr (fun _ => none) mf638 md (gMo PG hq), fm 8 (fPg cs PG), fo 13 (fPr cs hq qr QO639 QF640 QA641) p0.toNatClampNeg, wd_Mpr cs (hq p0.toNatClampNeg) (qr p0.toNatClampNeg) (fun _ => QO639 p0.toNatClampNeg) (upd (QF640 p0.toNatClampNeg) 10 z655) (QA641 p0.toNatClampNeg) (fun _ _ => none)]) rfl rfl (fun H locs hw => ?_)
          refine lv_aload_n S.x S.b d_Mo_ownCall_257 rfl (lv_at hl 4 rfl) ?_
          refine lv_aload_n S.x S.b d_Mo_ownCall_258 rfl (lv_at hl 5 rfl) ?_
          refine px_get S k_Mo hT hw 0 0 9 (v := .int (mf638 9)) rfl rfl rfl (by decide) m11_87 d_Mo_ownCall_259 ?_
          refine px_callv (pr := [wd_Mo cs mo mr (fun _ => none) mf638 md (gMo PG hq), fm 8 (fPg cs PG), fo 13 (fPr cs hq qr QO639 QF640 QA641) p0.toNatClampNeg]) (px_runV (As := [.int (mf638 9)]) (rest := []) S (c_mq_give l D cs (hq p0.toNatClampNeg) (qr p0.toNatClampNeg) (fun _ _ => none) (fun _ => QO639 p0.toNatClampNeg) (upd (QF640 p0.toNatClampNeg) 10 z655) (QA641 p0.toNatClampNeg) (mf638 9)  (show 0 ≤ z655.toInt from by first | with_reducible rfl | with_reducible assumption | omega) (show z655.toInt < 62500 from by first | with_reducible rfl | with_reducible assumption | omega) _) hT (pr := [wd_Mo cs mo mr (fun _ => none) mf638 md (gMo PG hq), fm 8 (fPg cs PG), fo 13 (fPr cs hq qr QO639 QF640 QA641) p0.toNatClampNeg]) (pcs := [wd_Mpr cs (hq p0.toNatClampNeg) (qr p0.toNatClampNeg) (fun _ => QO639 p0.toNatClampNeg) (upd (QF640 p0.toNatClampNeg) 10 z655) (QA641 p0.toNatClampNeg) (fun _ _ => none)]) hw px_X.tt (px_recv hT hw 3 0 rfl rfl rfl) m13_161 m14_111 m13_159 m13_160 m1_22 q_Mpr_give ⟨Nat.le_of_ble_eq_true rfl, Nat.le_of_ble_eq_true rfl⟩ hl.1 rfl (Nat.le_of_ble_eq_true rfl) d_Mo_ownCall_262 ⟨Nat.le_of_ble_eq_true rfl, Nat.le_of_ble_eq_true rfl⟩) hw hA (fun p660 H locs hp660 hw => ?_)
          obtain ⟨qf658, qa659, rfl, e662, e663, e664, e665, e666, e667, e668, e669, e670, e671, e672, e673, e674, e675, e676, e677⟩ := hp660
          replace e662 : (qf658 10).toInt = z655.toInt + 1 := e662
          replace e663 : (qf658 1).toInt = ((QF640 p0.toNatClampNeg) 1).toInt := e663
          replace e664 : (qf658 2).toInt = ((QF640 p0.toNatClampNeg) 2).toInt := e664
          replace e665 : (qf658 3).toInt = ((QF640 p0.toNatClampNeg) 3).toInt := e665
          replace e666 : (qf658 4).toInt = ((QF640 p0.toNatClampNeg) 4).toInt := e666
          replace e667 : (qf658 5).toInt = ((QF640 p0.toNatClampNeg) 5).toInt := e667
          replace e668 : (qf658 6).toInt = ((QF640 p0.toNatClampNeg) 6).toInt := e668
          replace e669 : (qf658 7).toInt = ((QF640 p0.toNatClampNeg) 7).toInt := e669
          replace e670 : (qf658 11).toInt = ((QF640 p0.toNatClampNeg) 11).toInt := e670
          replace e671 : (qf658 12).toInt = ((QF640 p0.toNatClampNeg) 12).toInt := e671
          replace e672 : (qf658 13).toInt = ((QF640 p0.toNatClampNeg) 13).toInt := e672
          replace e673 : (qf658 14).toInt = ((QF640 p0.toNatClampNeg) 14).toInt := e673
          replace e674 : (qf658 21).toInt = ((QF640 p0.toNatClampNeg) 21).toInt := e674
          replace e675 : (qf658 23).toInt = ((QF640 p0.toNatClampNeg) 23).toInt := e675
          replace e676 : (qf658 24).toInt = ((QF640 p0.toNatClampNeg) 24).toInt := e676
          replace e677 : NuU (QA641 p0.toNatClampNeg) qa659 9 z655.toInt (mf638 9) := e677
          skip
          replace hw : pw D A s.heap H locs [wd_Mo cs mo mr (fun _ => none) mf638 md (gMo PG hq), fm 8 (fPg cs PG), fo 13 (fPr cs hq qr QO639 QF640 QA641) p0.toNatClampNeg, wd_Mpr cs (hq p0.toNatClampNeg) (qr p0.toNatClampNeg) (fun _ => QO639 p0.toNatClampNeg) qf658 qa659 (fun _ _ => none)] := hw
          refine lv_iload S.x S.b d_Mo_ownCall_265 (lv_at hl 1 rfl) ?_
          have hw := fpr_in (pr := [wd_Mo cs mo mr (fun _ => none) mf638 md (gMo PG hq), fm 8 (fPg cs PG)]) hw hi653
          obtain ⟨QO678, hu_QO678⟩ : ∃ y : Nat → Option Nat, y = va_up QO639 p0.toNatClampNeg ((fun _ => QO639 p0.toNatClampNeg) 0) := ⟨_, rfl⟩
          obtain ⟨QF679, hu_QF679⟩ : ∃ y : Nat → Nat → Int32, y = va_up QF640 p0.toNatClampNeg qf658 := ⟨_, rfl⟩
          obtain ⟨QA680, hu_QA680⟩ : ∃ y : Nat → Nat → Nat → Int32, y = va_up QA641 p0.toNatClampNeg qa659 := ⟨_, rfl⟩
          have hw : pw D A s.heap _ _ [wd_Mo cs mo mr (fun _ => none) mf638 md (gMo PG hq), fm 8 (fPg cs PG), fm 13 (fPr cs hq qr QO678 QF679 QA680)] := (by rw [hu_QO678, hu_QF679, hu_QA680]; exact hw)
          have hpx : PrX PG RR QO678 QF679 QA680 p0.toNatClampNeg := (by rw [hu_QO678, hu_QF679, hu_QA680]; exact PrX.up (hpr.px hi653) (show (0 ≤ (qf658 1).toInt ∧ (qf658 1).toInt ≤ 1) ∧ (0 ≤ (qf658 21).toInt ∧ (qf658 21).toInt ≤ 4) ∧ (0 ≤ (qf658 23).toInt ∧ (qf658 23).toInt ≤ 4) ∧ (0 ≤ (qf658 24).toInt ∧ (qf658 24).toInt ≤ 1000000) ∧ (0 ≤ (qf658 6).toInt ∧ (qf658 6).toInt ≤ 3) ∧ (0 ≤ (qf658 7).toInt ∧ (qf658 7).toInt ≤ 1) from by first | with_reducible rfl | with_reducible assumption | omega) (show (qf658 1).toInt = (QF640 p0.toNatClampNeg 1).toInt from by first | exact oz_1811ac7fe4 e663 | omega) (show (QF640 p0.toNatClampNeg 6).toInt ≤ (qf658 6).toInt from by first | exact oz_f9b42d1b56 e668 | omega))
          have hpd : PdT (PG j9) (RR p0.toNatClampNeg) (QF679 p0.toNatClampNeg) (QA680 p0.toNatClampNeg) := (by rw [hu_QF679, hu_QA680, va_up_s, va_up_s]; exact PoT.ans hpo (show (qf658 4).toInt = (QF p0.toNatClampNeg 4).toInt ∧ (qf658 5).toInt = (QF p0.toNatClampNeg 5).toInt ∧ (qf658 11).toInt = (QF p0.toNatClampNeg 11).toInt ∧ (qf658 12).toInt = (QF p0.toNatClampNeg 12).toInt ∧ (qf658 13).toInt = (QF p0.toNatClampNeg 13).toInt ∧ (qf658 14).toInt = (QF p0.toNatClampNeg 14).toInt from by first | with_reducible rfl | with_reducible assumption | omega) (show (qf658 10).toInt = (QF p0.toNatClampNeg 10).toInt - ((oslots p1.toInt).length : Int) + 1 from by first | with_reducible rfl | with_reducible assumption | omega) (show (qf658 24).toInt = (QF p0.toNatClampNeg 24).toInt ∨ (p1.toInt = 1 ∧ (qf658 24).toInt = (QF p0.toNatClampNeg 24).toInt + 1) from by first | with_reducible rfl | with_reducible assumption | omega) (fun i9 q9 => absurd (by rw [hkp.2.2 8 (by decide) (by decide)]) q9) (fun k9 a9 b9 c9 d9 => hkp.2.2 k9 b9 c9) (show NuU _ _ 9 ((QF p0.toNatClampNeg 10).toInt - ((oslots p1.toInt).length : Int)) _ from (by have q8 := e677; rw [show (z655.toInt) = (QF p0.toNatClampNeg 10).toInt - ((oslots p1.toInt).length : Int) by omega] at q8; exact q8)))
          have hko : KpO QO QF QO678 QF679 p0.toNatClampNeg := (by rw [hu_QO678, hu_QF679]; refine ⟨by rw [va_up_s]; first | done | exact hkp.1, ?_⟩; rw [va_up_s]; exact (show (qf658 1).toInt = (QF p0.toNatClampNeg 1).toInt ∧ (qf658 7).toInt = (QF p0.toNatClampNeg 7).toInt ∧ (qf658 11).toInt = (QF p0.toNatClampNeg 11).toInt from by first | with_reducible rfl | with_reducible assumption | omega))
          have hw : pw D A s.heap _ _ [wd_Mo cs mo mr (fun _ => none) mf638 md (gMo PG hq), fm 13 (fPr cs hq qr QO678 QF679 QA680), fm 8 (fPg cs PG)] := hw.sub [0, 2, 1] rfl rfl
          exact px_iret (v := 1) S hr rfl hlk hAe hw (Nat.le_of_ble_eq_true rfl) (Nat.le_of_ble_eq_true rfl) (⟨mf638, md, QO678, QF679, QA680, rfl, (show 0 ≤ (1 : Int) from by first | decide | omega), (show (1 : Int) ≤ 1 from by first | decide | omega), (show OwQ (1 : Int) (PrA PG RR QO678 QF679 QA680) (PrX PG RR QO678 QF679 QA680 p0.toNatClampNeg ∧ PdT (PG j9) (RR p0.toNatClampNeg) (QF679 p0.toNatClampNeg) (QA680 p0.toNatClampNeg)) from (Or.inr ⟨by omega, hpx, hpd⟩)), (show KpO QO QF QO678 QF679 p0.toNatClampNeg from hko), (show (mf638 0).toInt = (mf 0).toInt from by first | exact e646 | omega), (show (mf638 2).toInt = (mf 2).toInt from by first | exact e647 | omega), (show (mf638 3).toInt = (mf 3).toInt from by first | exact e648 | omega), (show (mf638 7).toInt = (mf 7).toInt from by first | exact e649 | omega), (show (mf638 8).toInt = (mf 8).toInt from by first | exact e650 | omega), (show (mf638 10).toInt = (mf 10).toInt from by first | exact e651 | omega)⟩) d_Mo_ownCall_267
      · simp only [List.mem_cons, List.not_mem_nil, or_false] at c416
        refine lv_aload_n S.x S.b d_Mo_ownCall_185 rfl (lv_at hl 5 rfl) ?_
        refine lv_iload_n S.x S.b d_Mo_ownCall_186 rfl (lv_at hl 6 rfl) ?_
        refine lv_iload S.x S.b d_Mo_ownCall_187 (lv_at hl 3 rfl) ?_
        have hw : pw D A s.heap _ _ [wd_Mo cs mo mr (fun _ => none) (upd mf 9 0) md (gMo PG hq), fm 8 (fPg cs PG), fm 13 (fPr cs hq qr QO QF QA)] := fm_back (pr := [wd_Mo cs mo mr (fun _ => none) (upd mf 9 0) md (gMo PG hq), fm 8 (fPg cs PG)]) (T := fPr cs hq qr QO QF QA) hw hi1
        have hw : pw D A s.heap _ _ [wd_Mo cs mo mr (fun _ => none) (upd mf 9 0) md (gMo PG hq), fm 13 (fPr cs hq qr QO QF QA), fm 8 (fPg cs PG)] := hw.sub [0, 2, 1] rfl rfl
        refine px_calli (pr := []) (px_runV (As := [.int p0, .int z4]) (rest := []) S (c_mo_waits l D cs RR mo mr md (upd mf 9 0) hq qr QO QF QA PG p0 z4  (show 0 ≤ p0.toInt from by first | exact g0 | omega) (show p0.toInt < 13 from by first | exact g1 | omega) hpr hpg _) hT (pr := []) (pcs := [wd_Mo cs mo mr (fun _ => none) (upd mf 9 0) md (gMo PG hq), fm 13 (fPr cs hq qr QO QF QA), fm 8 (fPg cs PG)]) hw px_X.tt (px_recv hT hw 0 0 rfl rfl rfl) m14_86 m14_83 m14_85 ms_16_6 m1_20 q_Mo_waits ⟨Nat.le_of_ble_eq_true rfl, Nat.le_of_ble_eq_true rfl⟩ hl.1 rfl (Nat.le_of_ble_eq_true rfl) d_Mo_ownCall_189 ⟨Nat.le_of_ble_eq_true rfl, Nat.le_of_ble_eq_true rfl⟩) hw hA (fun v690 p689 H locs hp689 hw => ?_)
        obtain ⟨mf685, QO686, QF687, QA688, rfl, e691, e692, e693, e694, e695, e696, e697, e698, e699, e700⟩ := hp689
        replace e691 : PrA PG RR QO686 QF687 QA688 := e691
        have hpr := e691
        replace e692 : KpP QO QF QA QO686 QF687 QA688 p0.toNatClampNeg := e692
        have hkp := hkp.tr e692
        replace e693 : (mf685 0).toInt = (mf 0).toInt := e693
        replace e694 : (mf685 2).toInt = (mf 2).toInt := e694
        replace e695 : (mf685 3).toInt = (mf 3).toInt := e695
        replace e696 : (mf685 7).toInt = (mf 7).toInt := e696
        replace e697 : (mf685 8).toInt = (mf 8).toInt := e697
        replace e698 : (mf685 10).toInt = (mf 10).toInt := e698
        replace e699 : 0 ≤ v690.toInt := e699
        replace e700 : v690.toInt ≤ 1 := e700
        replace hw : pw D A s.heap H locs [wd_Mo cs mo mr (fun _ => none) mf685 md (gMo PG hq), fm 13 (fPr cs hq qr QO686 QF687 QA688), fm 8 (fPg cs PG)] := hw
        have lv690 := Int32.le_toInt v690
        have uv690 := Int32.toInt_lt v690
        refine lv_istore (lv' := [(6, .int v690), (7, .int 1), (5, .int z369), (4, .int z4), (3, .ref (hq p0.toNatClampNeg)), (0, .ref mo), (1, .int p0), (2, .int p1)]) S.x S.b d_Mo_ownCall_192 hl (by decide) rfl (fun ls hl => ?_)
        refine lv_goto (tgt := 241) S.x S.b d_Mo_ownCall_194 (by decide) ?_
        refine lv_iload S.x S.b d_Mo_ownCall_241 (lv_at hl 0 rfl) ?_
        refine lv_if_eq (tgt := 265) S.x S.b d_Mo_ownCall_243 (by decide) (fun c701 => ?_) (fun c701 => ?_)
        · have nc701 : v690.toInt = (0 : Int) := (i_eq (x := v690) (y := 0)).mp c701
          refine lv_iload S.x S.b d_Mo_ownCall_265 (lv_at hl 0 rfl) ?_
          exact px_iret (v := v690) S hr (z_nar (by omega)) hlk hAe hw (Nat.le_of_ble_eq_true rfl) (Nat.le_of_ble_eq_true rfl) (⟨mf685, md, QO686, QF687, QA688, rfl, (show 0 ≤ v690.toInt from by first | exact e699 | omega), (show v690.toInt ≤ 1 from by first | exact e700 | omega), (show OwQ v690.toInt (PrA PG RR QO686 QF687 QA688) (PrX PG RR QO686 QF687 QA688 p0.toNatClampNeg ∧ PdT (PG j9) (RR p0.toNatClampNeg) (QF687 p0.toNatClampNeg) (QA688 p0.toNatClampNeg)) from (Or.inl ⟨by omega, hpr⟩)), (show KpO QO QF QO686 QF687 p0.toNatClampNeg from hkp.o), (show (mf685 0).toInt = (mf 0).toInt from by first | exact e693 | omega), (show (mf685 2).toInt = (mf 2).toInt from by first | exact e694 | omega), (show (mf685 3).toInt = (mf 3).toInt from by first | exact e695 | omega), (show (mf685 7).toInt = (mf 7).toInt from by first | exact e696 | omega), (show (mf685 8).toInt = (mf 8).toInt from by first | exact e697 | omega), (show (mf685 10).toInt = (mf 10).toInt from by first | exact e698 | omega)⟩) d_Mo_ownCall_267
        · have nc701 : ¬ v690.toInt = (0 : Int) := mt (i_eq (x := v690) (y := 0)).mpr c701
          refine lv_aload_n S.x S.b d_Mo_ownCall_246 rfl (lv_at hl 4 rfl) ?_
          have hkf := hkp.2.1; unfold KpF at hkf
          refine lv_aload_n S.x S.b d_Mo_ownCall_247 rfl (lv_at hl 4 rfl) ?_
          have hw : pw D A s.heap _ _ [wd_Mo cs mo mr (fun _ => none) mf685 md (gMo PG hq), fm 8 (fPg cs PG), fm 13 (fPr cs hq qr QO686 QF687 QA688)] := hw.sub [0, 2, 1] rfl rfl
          have hc702 := cl_nat (x := p0) (by first | exact g0 | omega)
          have hi702 : p0.toNatClampNeg < 13 := by first | exact hi1 | omega
          have hw : pw D A s.heap _ _ [wd_Mo cs mo mr (fun _ => none) mf685 md (gMo PG hq), fm 8 (fPg cs PG), fo 13 (fPr cs hq qr QO686 QF687 QA688) p0.toNatClampNeg, wd_Mpr cs (hq p0.toNatClampNeg) (qr p0.toNatClampNeg) (fun _ => QO686 p0.toNatClampNeg) (QF687 p0.toNatClampNeg) (QA688 p0.toNatClampNeg) (fun _ _ => none)] := fm_out (pr := [wd_Mo cs mo mr (fun _ => none) mf685 md (gMo PG hq), fm 8 (fPg cs PG)]) (T := fPr cs hq qr QO686 QF687 QA688) hw hi702
          have hps702 := hpr.1 p0.toNatClampNeg hi702
          have hpb702 := hps702.1
          unfold PsB at hpb702
          refine px_get S k_Mpr hT hw 3 0 10 (v := .int ((QF687 p0.toNatClampNeg) 10)) rfl rfl rfl (by decide) m11_1 d_Mo_ownCall_248 ?_
          refine lv_iload S.x S.b d_Mo_ownCall_251 (lv_at hl 1 rfl) ?_
          refine lv_isub S.x S.b d_Mo_ownCall_253 ?_
          have lr703 := Int32.le_toInt ((QF687 p0.toNatClampNeg) 10)
          have ur703 := Int32.toInt_lt ((QF687 p0.toNatClampNeg) 10)
          refine lv_topi (fun z704 ez704 => ?_)
          have tz704 : z704.toInt = (((QF687 p0.toNatClampNeg) 10).toInt - (1 : Int) + 2147483648) % 4294967296 - 2147483648 := by rw [ez704]; exact i_sub ((QF687 p0.toNatClampNeg) 10) 1
          have lz704 := Int32.le_toInt z704
          have uz704 := Int32.toInt_lt z704
          try replace tz704 : z704.toInt = ((QF687 p0.toNatClampNeg) 10).toInt - (1 : Int) := by omega
          refine px_put S k_Mpr hT hw 3 0 10 rfl rfl (by decide) m11_1 rfl rfl rfl (Nat.le_of_ble_eq_true rfl) d_Mo_ownCall_254 (w' := wd_Mpr cs (hq p0.toNatClampNeg) (qr p0.toNatClampNeg) (fun _ => QO686 p0.toNatClampNeg) (upd (QF687 p0.toNatClampNeg) 10 z704) (QA688 p0.toNatClampNeg) (fun _ _ => none)) (ps' := [wd_Mo cs mo mr (fun _ => none) mf685 md (gMo PG hq), fm 8 (fPg cs PG), fo 13 (fPr cs hq qr QO686 QF687 QA688) p0.toNatClampNeg, wd_Mpr cs (hq p0.toNatClampNeg) (qr p0.toNatClampNeg) (fun _ => QO686 p0.toNatClampNeg) (upd (QF687 p0.toNatClampNeg) 10 z704) (QA688 p0.toNatClampNeg) (fun _ _ => none)]) rfl rfl (fun H locs hw => ?_)
          refine lv_aload_n S.x S.b d_Mo_ownCall_257 rfl (lv_at hl 4 rfl) ?_
          refine lv_aload_n S.x S.b d_Mo_ownCall_258 rfl (lv_at hl 5 rfl) ?_
          refine px_get S k_Mo hT hw 0 0 9 (v := .int (mf685 9)) rfl rfl rfl (by decide) m11_87 d_Mo_ownCall_259 ?_
          refine px_callv (pr := [wd_Mo cs mo mr (fun _ => none) mf685 md (gMo PG hq), fm 8 (fPg cs PG), fo 13 (fPr cs hq qr QO686 QF687 QA688) p0.toNatClampNeg]) (px_runV (As := [.int (mf685 9)]) (rest := []) S (c_mq_give l D cs (hq p0.toNatClampNeg) (qr p0.toNatClampNeg) (fun _ _ => none) (fun _ => QO686 p0.toNatClampNeg) (upd (QF687 p0.toNatClampNeg) 10 z704) (QA688 p0.toNatClampNeg) (mf685 9)  (show 0 ≤ z704.toInt from by first | with_reducible rfl | with_reducible assumption | omega) (show z704.toInt < 62500 from by first | with_reducible rfl | with_reducible assumption | omega) _) hT (pr := [wd_Mo cs mo mr (fun _ => none) mf685 md (gMo PG hq), fm 8 (fPg cs PG), fo 13 (fPr cs hq qr QO686 QF687 QA688) p0.toNatClampNeg]) (pcs := [wd_Mpr cs (hq p0.toNatClampNeg) (qr p0.toNatClampNeg) (fun _ => QO686 p0.toNatClampNeg) (upd (QF687 p0.toNatClampNeg) 10 z704) (QA688 p0.toNatClampNeg) (fun _ _ => none)]) hw px_X.tt (px_recv hT hw 3 0 rfl rfl rfl) m13_161 m14_111 m13_159 m13_160 m1_22 q_Mpr_give ⟨Nat.le_of_ble_eq_true rfl, Nat.le_of_ble_eq_true rfl⟩ hl.1 rfl (Nat.le_of_ble_eq_true rfl) d_Mo_ownCall_262 ⟨Nat.le_of_ble_eq_true rfl, Nat.le_of_ble_eq_true rfl⟩) hw hA (fun p709 H locs hp709 hw => ?_)
          obtain ⟨qf707, qa708, rfl, e711, e712, e713, e714, e715, e716, e717, e718, e719, e720, e721, e722, e723, e724, e725, e726⟩ := hp709
          replace e711 : (qf707 10).toInt = z704.toInt + 1 := e711
          replace e712 : (qf707 1).toInt = ((QF687 p0.toNatClampNeg) 1).toInt := e712
          replace e713 : (qf707 2).toInt = ((QF687 p0.toNatClampNeg) 2).toInt := e713
          replace e714 : (qf707 3).toInt = ((QF687 p0.toNatClampNeg) 3).toInt := e714
          replace e715 : (qf707 4).toInt = ((QF687 p0.toNatClampNeg) 4).toInt := e715
          replace e716 : (qf707 5).toInt = ((QF687 p0.toNatClampNeg) 5).toInt := e716
          replace e717 : (qf707 6).toInt = ((QF687 p0.toNatClampNeg) 6).toInt := e717
          replace e718 : (qf707 7).toInt = ((QF687 p0.toNatClampNeg) 7).toInt := e718
          replace e719 : (qf707 11).toInt = ((QF687 p0.toNatClampNeg) 11).toInt := e719
          replace e720 : (qf707 12).toInt = ((QF687 p0.toNatClampNeg) 12).toInt := e720
          replace e721 : (qf707 13).toInt = ((QF687 p0.toNatClampNeg) 13).toInt := e721
          replace e722 : (qf707 14).toInt = ((QF687 p0.toNatClampNeg) 14).toInt := e722
          replace e723 : (qf707 21).toInt = ((QF687 p0.toNatClampNeg) 21).toInt := e723
          replace e724 : (qf707 23).toInt = ((QF687 p0.toNatClampNeg) 23).toInt := e724
          replace e725 : (qf707 24).toInt = ((QF687 p0.toNatClampNeg) 24).toInt := e725
          replace e726 : NuU (QA688 p0.toNatClampNeg) qa708 9 z704.toInt (mf685 9) := e726
          skip
          replace hw : pw D A s.heap H locs [wd_Mo cs mo mr (fun _ => none) mf685 md (gMo PG hq), fm 8 (fPg cs PG), fo 13 (fPr cs hq qr QO686 QF687 QA688) p0.toNatClampNeg, wd_Mpr cs (hq p0.toNatClampNeg) (qr p0.toNatClampNeg) (fun _ => QO686 p0.toNatClampNeg) qf707 qa708 (fun _ _ => none)] := hw
          refine lv_iload S.x S.b d_Mo_ownCall_265 (lv_at hl 0 rfl) ?_
          have hw := fpr_in (pr := [wd_Mo cs mo mr (fun _ => none) mf685 md (gMo PG hq), fm 8 (fPg cs PG)]) hw hi702
          obtain ⟨QO727, hu_QO727⟩ : ∃ y : Nat → Option Nat, y = va_up QO686 p0.toNatClampNeg ((fun _ => QO686 p0.toNatClampNeg) 0) := ⟨_, rfl⟩
          obtain ⟨QF728, hu_QF728⟩ : ∃ y : Nat → Nat → Int32, y = va_up QF687 p0.toNatClampNeg qf707 := ⟨_, rfl⟩
          obtain ⟨QA729, hu_QA729⟩ : ∃ y : Nat → Nat → Nat → Int32, y = va_up QA688 p0.toNatClampNeg qa708 := ⟨_, rfl⟩
          have hw : pw D A s.heap _ _ [wd_Mo cs mo mr (fun _ => none) mf685 md (gMo PG hq), fm 8 (fPg cs PG), fm 13 (fPr cs hq qr QO727 QF728 QA729)] := (by rw [hu_QO727, hu_QF728, hu_QA729]; exact hw)
          have hpx : PrX PG RR QO727 QF728 QA729 p0.toNatClampNeg := (by rw [hu_QO727, hu_QF728, hu_QA729]; exact PrX.up (hpr.px hi702) (show (0 ≤ (qf707 1).toInt ∧ (qf707 1).toInt ≤ 1) ∧ (0 ≤ (qf707 21).toInt ∧ (qf707 21).toInt ≤ 4) ∧ (0 ≤ (qf707 23).toInt ∧ (qf707 23).toInt ≤ 4) ∧ (0 ≤ (qf707 24).toInt ∧ (qf707 24).toInt ≤ 1000000) ∧ (0 ≤ (qf707 6).toInt ∧ (qf707 6).toInt ≤ 3) ∧ (0 ≤ (qf707 7).toInt ∧ (qf707 7).toInt ≤ 1) from by first | with_reducible rfl | with_reducible assumption | omega) (show (qf707 1).toInt = (QF687 p0.toNatClampNeg 1).toInt from by first | exact oz_1811ac7fe4 e712 | omega) (show (QF687 p0.toNatClampNeg 6).toInt ≤ (qf707 6).toInt from by first | exact oz_f9b42d1b56 e717 | omega))
          have hpd : PdT (PG j9) (RR p0.toNatClampNeg) (QF728 p0.toNatClampNeg) (QA729 p0.toNatClampNeg) := (by rw [hu_QF728, hu_QA729, va_up_s, va_up_s]; exact PoT.ans hpo (show (qf707 4).toInt = (QF p0.toNatClampNeg 4).toInt ∧ (qf707 5).toInt = (QF p0.toNatClampNeg 5).toInt ∧ (qf707 11).toInt = (QF p0.toNatClampNeg 11).toInt ∧ (qf707 12).toInt = (QF p0.toNatClampNeg 12).toInt ∧ (qf707 13).toInt = (QF p0.toNatClampNeg 13).toInt ∧ (qf707 14).toInt = (QF p0.toNatClampNeg 14).toInt from by first | with_reducible rfl | with_reducible assumption | omega) (show (qf707 10).toInt = (QF p0.toNatClampNeg 10).toInt - ((oslots p1.toInt).length : Int) + 1 from by first | with_reducible rfl | with_reducible assumption | omega) (show (qf707 24).toInt = (QF p0.toNatClampNeg 24).toInt ∨ (p1.toInt = 1 ∧ (qf707 24).toInt = (QF p0.toNatClampNeg 24).toInt + 1) from by first | with_reducible rfl | with_reducible assumption | omega) (fun i9 q9 => absurd (by rw [hkp.2.2 8 (by decide) (by decide)]) q9) (fun k9 a9 b9 c9 d9 => hkp.2.2 k9 b9 c9) (show NuU _ _ 9 ((QF p0.toNatClampNeg 10).toInt - ((oslots p1.toInt).length : Int)) _ from (by have q8 := e726; rw [show (z704.toInt) = (QF p0.toNatClampNeg 10).toInt - ((oslots p1.toInt).length : Int) by omega] at q8; exact q8)))
          have hko : KpO QO QF QO727 QF728 p0.toNatClampNeg := (by rw [hu_QO727, hu_QF728]; refine ⟨by rw [va_up_s]; first | done | exact hkp.1, ?_⟩; rw [va_up_s]; exact (show (qf707 1).toInt = (QF p0.toNatClampNeg 1).toInt ∧ (qf707 7).toInt = (QF p0.toNatClampNeg 7).toInt ∧ (qf707 11).toInt = (QF p0.toNatClampNeg 11).toInt from by first | with_reducible rfl | with_reducible assumption | omega))
          have hw : pw D A s.heap _ _ [wd_Mo cs mo mr (fun _ => none) mf685 md (gMo PG hq), fm 13 (fPr cs hq qr QO727 QF728 QA729), fm 8 (fPg cs PG)] := hw.sub [0, 2, 1] rfl rfl
          exact px_iret (v := v690) S hr (z_nar (by omega)) hlk hAe hw (Nat.le_of_ble_eq_true rfl) (Nat.le_of_ble_eq_true rfl) (⟨mf685, md, QO727, QF728, QA729, rfl, (show 0 ≤ v690.toInt from by first | exact e699 | omega), (show v690.toInt ≤ 1 from by first | exact e700 | omega), (show OwQ v690.toInt (PrA PG RR QO727 QF728 QA729) (PrX PG RR QO727 QF728 QA729 p0.toNatClampNeg ∧ PdT (PG j9) (RR p0.toNatClampNeg) (QF728 p0.toNatClampNeg) (QA729 p0.toNatClampNeg)) from (Or.inr ⟨by omega, hpx, hpd⟩)), (show KpO QO QF QO727 QF728 p0.toNatClampNeg from hko), (show (mf685 0).toInt = (mf 0).toInt from by first | exact e693 | omega), (show (mf685 2).toInt = (mf 2).toInt from by first | exact e694 | omega), (show (mf685 3).toInt = (mf 3).toInt from by first | exact e695 | omega), (show (mf685 7).toInt = (mf 7).toInt from by first | exact e696 | omega), (show (mf685 8).toInt = (mf 8).toInt from by first | exact e697 | omega), (show (mf685 10).toInt = (mf 10).toInt from by first | exact e698 | omega)⟩) d_Mo_ownCall_267
      · simp only [List.mem_cons, List.not_mem_nil, or_false] at c416
        refine lv_aload_n S.x S.b d_Mo_ownCall_197 rfl (lv_at hl 5 rfl) ?_
        refine lv_iload_n S.x S.b d_Mo_ownCall_198 rfl (lv_at hl 6 rfl) ?_
        refine lv_iload_n S.x S.b d_Mo_ownCall_199 rfl (lv_at hl 7 rfl) ?_
        refine lv_bipush (v := 7) S.x S.b d_Mo_ownCall_200 (by decide) ?_
        refine lv_icmp_ne (tgt := 209) S.x S.b d_Mo_ownCall_202 (by decide) (fun c730 => ?_) (fun c730 => ?_)
        · have nc730 : ¬ p1.toInt = (7 : Int) := mt (i_eq (x := p1) (y := 7)).mpr c730
          refine lv_iconst (v := 0) S.x S.b d_Mo_ownCall_209 (by decide) ?_
          refine lv_aload_n S.x S.b d_Mo_ownCall_210 rfl (lv_at hl 4 rfl) ?_
          refine px_get S k_Mpr hT hw 3 0 9 (v := .ref ((qr p0.toNatClampNeg) 9)) rfl rfl rfl (by decide) m10_239 d_Mo_ownCall_211 ?_
          refine lv_aload_n S.x S.b d_Mo_ownCall_214 rfl (lv_at hl 4 rfl) ?_
          refine px_get S k_Mpr hT hw 3 0 10 (v := .int ((QF p0.toNatClampNeg) 10)) rfl rfl rfl (by decide) m11_1 d_Mo_ownCall_215 ?_
          refine lv_iconst (v := 3) S.x S.b d_Mo_ownCall_218 (by decide) ?_
          refine lv_isub S.x S.b d_Mo_ownCall_219 ?_
          have lr731 := Int32.le_toInt ((QF p0.toNatClampNeg) 10)
          have ur731 := Int32.toInt_lt ((QF p0.toNatClampNeg) 10)
          refine lv_topi (fun z732 ez732 => ?_)
          have tz732 : z732.toInt = (((QF p0.toNatClampNeg) 10).toInt - (3 : Int) + 2147483648) % 4294967296 - 2147483648 := by rw [ez732]; exact i_sub ((QF p0.toNatClampNeg) 10) 3
          have lz732 := Int32.le_toInt z732
          have uz732 := Int32.toInt_lt z732
          try replace tz732 : z732.toInt = ((QF p0.toNatClampNeg) 10).toInt - (3 : Int) := by omega
          refine px_iald S hT hw 3 2 (n := 62500) (f := ((QA p0.toNatClampNeg) 9)) rfl (ga_Mpr_9 _ _ _ _ _ _ _) (x := z732) (vp_in_iff.mpr (by constructor <;> omega)) d_Mo_ownCall_220 ?_
          refine lv_topi (fun z733 ez733 => ?_)
          have lz733 := Int32.le_toInt z733
          have uz733 := Int32.toInt_lt z733
          have hmv9 : ∀ c : Int, z369.toInt ≤ c → c < z369.toInt + z4.toInt → 0 ≤ c ∧ c < 37000 := (by rw [hx5, hx4]; exact hpo.arr (by omega))
          refine lv_iload S.x S.b d_Mo_ownCall_221 (lv_at hl 2 rfl) ?_
          refine lv_iload S.x S.b d_Mo_ownCall_223 (lv_at hl 3 rfl) ?_
          have hw : pw D A s.heap _ _ [wd_Mo cs mo mr (fun _ => none) (upd mf 9 0) md (gMo PG hq), fm 8 (fPg cs PG), fm 13 (fPr cs hq qr QO QF QA)] := fm_back (pr := [wd_Mo cs mo mr (fun _ => none) (upd mf 9 0) md (gMo PG hq), fm 8 (fPg cs PG)]) (T := fPr cs hq qr QO QF QA) hw hi1
          have hw : pw D A s.heap _ _ [wd_Mo cs mo mr (fun _ => none) (upd mf 9 0) md (gMo PG hq), fm 13 (fPr cs hq qr QO QF QA), fm 8 (fPg cs PG)] := hw.sub [0, 2, 1] rfl rfl
          refine px_callv (pr := []) (px_runV (As := [.int p0, .int 0, .int z733, .int z369, .int z4]) (rest := []) S (c_mo_moveArray l D cs RR mo mr (upd mf 9 0) md hq qr QO QF QA PG p0 0 z733 z369 z4  (show 0 ≤ p0.toInt from by first | exact g0 | omega) (show p0.toInt < 13 from by first | exact g1 | omega) hpr hpg hmv9 _) hT (pr := []) (pcs := [wd_Mo cs mo mr (fun _ => none) (upd mf 9 0) md (gMo PG hq), fm 13 (fPr cs hq qr QO QF QA), fm 8 (fPg cs PG)]) hw px_X.tt (px_recv hT hw 0 0 rfl rfl rfl) m14_110 m14_107 m14_109 ms_16_10 m1_20 q_Mo_moveArray ⟨Nat.le_of_ble_eq_true rfl, Nat.le_of_ble_eq_true rfl⟩ hl.1 rfl (Nat.le_of_ble_eq_true rfl) d_Mo_ownCall_225 ⟨Nat.le_of_ble_eq_true rfl, Nat.le_of_ble_eq_true rfl⟩) hw hA (fun p744 H locs hp744 hw => ?_)
          obtain ⟨mf739, md740, QO741, QF742, QA743, rfl, e746, e747, e748, e749, e750, e751, e752, e753, e754⟩ := hp744
          replace e746 : PrX PG RR QO741 QF742 QA743 p0.toNatClampNeg := e746
          have hpx := e746
          replace e747 : KpM QO QF QA QO741 QF742 QA743 p0.toNatClampNeg z369.toInt z4.toInt := e747
          have hkm := e747
          replace e748 : (mf739 0).toInt = (mf 0).toInt := e748
          replace e749 : (mf739 2).toInt = (mf 2).toInt := e749
          replace e750 : (mf739 3).toInt = (mf 3).toInt := e750
          replace e751 : (mf739 7).toInt = (mf 7).toInt := e751
          replace e752 : (mf739 8).toInt = (mf 8).toInt := e752
          replace e753 : (mf739 9).toInt = (0 : Int) := e753
          replace e754 : (mf739 10).toInt = (mf 10).toInt := e754
          replace hw : pw D A s.heap H locs [wd_Mo cs mo mr (fun _ => none) mf739 md740 (gMo PG hq), fm 13 (fPr cs hq qr QO741 QF742 QA743), fm 8 (fPg cs PG)] := hw
          refine lv_iconst (v := 3) S.x S.b d_Mo_ownCall_228 (by decide) ?_
          refine lv_istore (lv' := [(7, .int 3), (6, .int 1), (5, .int z369), (4, .int z4), (3, .ref (hq p0.toNatClampNeg)), (0, .ref mo), (1, .int p0), (2, .int p1)]) S.x S.b d_Mo_ownCall_229 hl (by decide) rfl (fun ls hl => ?_)
          refine lv_goto (tgt := 241) S.x S.b d_Mo_ownCall_231 (by decide) ?_
          refine lv_iload S.x S.b d_Mo_ownCall_241 (lv_at hl 1 rfl) ?_
          refine lv_if_eq (tgt := 265) S.x S.b d_Mo_ownCall_243 (by decide) (fun c755 => ?_) (fun c755 => ?_)
          · exact absurd c755 (by decide)
          ·
            refine lv_aload_n S.x S.b d_Mo_ownCall_246 rfl (lv_at hl 4 rfl) ?_
            have hkf := hkm.2.1; unfold KpF at hkf
            refine lv_aload_n S.x S.b d_Mo_ownCall_247 rfl (lv_at hl 4 rfl) ?_
            have hw : pw D A s.heap _ _ [wd_Mo cs mo mr (fun _ => none) mf739 md740 (gMo PG hq), fm 8 (fPg cs PG), fm 13 (fPr cs hq qr QO741 QF742 QA743)] := hw.sub [0, 2, 1] rfl rfl
            have hc756 := cl_nat (x := p0) (by first | exact g0 | omega)
            have hi756 : p0.toNatClampNeg < 13 := by first | exact hi1 | omega
            have hw : pw D A s.heap _ _ [wd_Mo cs mo mr (fun _ => none) mf739 md740 (gMo PG hq), fm 8 (fPg cs PG), fo 13 (fPr cs hq qr QO741 QF742 QA743) p0.toNatClampNeg, wd_Mpr cs (hq p0.toNatClampNeg) (qr p0.toNatClampNeg) (fun _ => QO741 p0.toNatClampNeg) (QF742 p0.toNatClampNeg) (QA743 p0.toNatClampNeg) (fun _ _ => none)] := fm_out (pr := [wd_Mo cs mo mr (fun _ => none) mf739 md740 (gMo PG hq), fm 8 (fPg cs PG)]) (T := fPr cs hq qr QO741 QF742 QA743) hw hi756
            have hpb756 := hpx.2.2
            unfold PsB at hpb756
            refine px_get S k_Mpr hT hw 3 0 10 (v := .int ((QF742 p0.toNatClampNeg) 10)) rfl rfl rfl (by decide) m11_1 d_Mo_ownCall_248 ?_
            refine lv_iload S.x S.b d_Mo_ownCall_251 (lv_at hl 0 rfl) ?_
            refine lv_isub S.x S.b d_Mo_ownCall_253 ?_
            have lr757 := Int32.le_toInt ((QF742 p0.toNatClampNeg) 10)
            have ur757 := Int32.toInt_lt ((QF742 p0.toNatClampNeg) 10)
            refine lv_topi (fun z758 ez758 => ?_)
            have tz758 : z758.toInt = (((QF742 p0.toNatClampNeg) 10).toInt - (3 : Int) + 2147483648) % 4294967296 - 2147483648 := by rw [ez758]; exact i_sub ((QF742 p0.toNatClampNeg) 10) 3
            have lz758 := Int32.le_toInt z758
            have uz758 := Int32.toInt_lt z758
            try replace tz758 : z758.toInt = ((QF742 p0.toNatClampNeg) 10).toInt - (3 : Int) := by omega
            refine px_put S k_Mpr hT hw 3 0 10 rfl rfl (by decide) m11_1 rfl rfl rfl (Nat.le_of_ble_eq_true rfl) d_Mo_ownCall_254 (w' := wd_Mpr cs (hq p0.toNatClampNeg) (qr p0.toNatClampNeg) (fun _ => QO741 p0.toNatClampNeg) (upd (QF742 p0.toNatClampNeg) 10 z758) (QA743 p0.toNatClampNeg) (fun _ _ => none)) (ps' := [wd_Mo cs mo mr (fun _ => none) mf739 md740 (gMo PG hq), fm 8 (fPg cs PG), fo 13 (fPr cs hq qr QO741 QF742 QA743) p0.toNatClampNeg, wd_Mpr cs (hq p0.toNatClampNeg) (qr p0.toNatClampNeg) (fun _ => QO741 p0.toNatClampNeg) (upd (QF742 p0.toNatClampNeg) 10 z758) (QA743 p0.toNatClampNeg) (fun _ _ => none)]) rfl rfl (fun H locs hw => ?_)
            refine lv_aload_n S.x S.b d_Mo_ownCall_257 rfl (lv_at hl 4 rfl) ?_
            refine lv_aload_n S.x S.b d_Mo_ownCall_258 rfl (lv_at hl 5 rfl) ?_
            refine px_get S k_Mo hT hw 0 0 9 (v := .int (mf739 9)) rfl rfl rfl (by decide) m11_87 d_Mo_ownCall_259 ?_
            refine px_callv (pr := [wd_Mo cs mo mr (fun _ => none) mf739 md740 (gMo PG hq), fm 8 (fPg cs PG), fo 13 (fPr cs hq qr QO741 QF742 QA743) p0.toNatClampNeg]) (px_runV (As := [.int (mf739 9)]) (rest := []) S (c_mq_give l D cs (hq p0.toNatClampNeg) (qr p0.toNatClampNeg) (fun _ _ => none) (fun _ => QO741 p0.toNatClampNeg) (upd (QF742 p0.toNatClampNeg) 10 z758) (QA743 p0.toNatClampNeg) (mf739 9)  (show 0 ≤ z758.toInt from by first | with_reducible rfl | with_reducible assumption | omega) (show z758.toInt < 62500 from by first | with_reducible rfl | with_reducible assumption | omega) _) hT (pr := [wd_Mo cs mo mr (fun _ => none) mf739 md740 (gMo PG hq), fm 8 (fPg cs PG), fo 13 (fPr cs hq qr QO741 QF742 QA743) p0.toNatClampNeg]) (pcs := [wd_Mpr cs (hq p0.toNatClampNeg) (qr p0.toNatClampNeg) (fun _ => QO741 p0.toNatClampNeg) (upd (QF742 p0.toNatClampNeg) 10 z758) (QA743 p0.toNatClampNeg) (fun _ _ => none)]) hw px_X.tt (px_recv hT hw 3 0 rfl rfl rfl) m13_161 m14_111 m13_159 m13_160 m1_22 q_Mpr_give ⟨Nat.le_of_ble_eq_true rfl, Nat.le_of_ble_eq_true rfl⟩ hl.1 rfl (Nat.le_of_ble_eq_true rfl) d_Mo_ownCall_262 ⟨Nat.le_of_ble_eq_true rfl, Nat.le_of_ble_eq_true rfl⟩) hw hA (fun p763 H locs hp763 hw => ?_)
            obtain ⟨qf761, qa762, rfl, e765, e766, e767, e768, e769, e770, e771, e772, e773, e774, e775, e776, e777, e778, e779, e780⟩ := hp763
            replace e765 : (qf761 10).toInt = z758.toInt + 1 := e765
            replace e766 : (qf761 1).toInt = ((QF742 p0.toNatClampNeg) 1).toInt := e766
            replace e767 : (qf761 2).toInt = ((QF742 p0.toNatClampNeg) 2).toInt := e767
            replace e768 : (qf761 3).toInt = ((QF742 p0.toNatClampNeg) 3).toInt := e768
            replace e769 : (qf761 4).toInt = ((QF742 p0.toNatClampNeg) 4).toInt := e769
            replace e770 : (qf761 5).toInt = ((QF742 p0.toNatClampNeg) 5).toInt := e770
            replace e771 : (qf761 6).toInt = ((QF742 p0.toNatClampNeg) 6).toInt := e771
            replace e772 : (qf761 7).toInt = ((QF742 p0.toNatClampNeg) 7).toInt := e772
            replace e773 : (qf761 11).toInt = ((QF742 p0.toNatClampNeg) 11).toInt := e773
            replace e774 : (qf761 12).toInt = ((QF742 p0.toNatClampNeg) 12).toInt := e774
            replace e775 : (qf761 13).toInt = ((QF742 p0.toNatClampNeg) 13).toInt := e775
            replace e776 : (qf761 14).toInt = ((QF742 p0.toNatClampNeg) 14).toInt := e776
            replace e777 : (qf761 21).toInt = ((QF742 p0.toNatClampNeg) 21).toInt := e777
            replace e778 : (qf761 23).toInt = ((QF742 p0.toNatClampNeg) 23).toInt := e778
            replace e779 : (qf761 24).toInt = ((QF742 p0.toNatClampNeg) 24).toInt := e779
            replace e780 : NuU (QA743 p0.toNatClampNeg) qa762 9 z758.toInt (mf739 9) := e780
            skip
            replace hw : pw D A s.heap H locs [wd_Mo cs mo mr (fun _ => none) mf739 md740 (gMo PG hq), fm 8 (fPg cs PG), fo 13 (fPr cs hq qr QO741 QF742 QA743) p0.toNatClampNeg, wd_Mpr cs (hq p0.toNatClampNeg) (qr p0.toNatClampNeg) (fun _ => QO741 p0.toNatClampNeg) qf761 qa762 (fun _ _ => none)] := hw
            refine lv_iload S.x S.b d_Mo_ownCall_265 (lv_at hl 1 rfl) ?_
            have hw := fpr_in (pr := [wd_Mo cs mo mr (fun _ => none) mf739 md740 (gMo PG hq), fm 8 (fPg cs PG)]) hw hi756
            obtain ⟨QO781, hu_QO781⟩ : ∃ y : Nat → Option Nat, y = va_up QO741 p0.toNatClampNeg ((fun _ => QO741 p0.toNatClampNeg) 0) := ⟨_, rfl⟩
            obtain ⟨QF782, hu_QF782⟩ : ∃ y : Nat → Nat → Int32, y = va_up QF742 p0.toNatClampNeg qf761 := ⟨_, rfl⟩
            obtain ⟨QA783, hu_QA783⟩ : ∃ y : Nat → Nat → Nat → Int32, y = va_up QA743 p0.toNatClampNeg qa762 := ⟨_, rfl⟩
            have hw : pw D A s.heap _ _ [wd_Mo cs mo mr (fun _ => none) mf739 md740 (gMo PG hq), fm 8 (fPg cs PG), fm 13 (fPr cs hq qr QO781 QF782 QA783)] := (by rw [hu_QO781, hu_QF782, hu_QA783]; exact hw)
            have hpx : PrX PG RR QO781 QF782 QA783 p0.toNatClampNeg := (by rw [hu_QO781, hu_QF782, hu_QA783]; exact PrX.up hpx (show (0 ≤ (qf761 1).toInt ∧ (qf761 1).toInt ≤ 1) ∧ (0 ≤ (qf761 21).toInt ∧ (qf761 21).toInt ≤ 4) ∧ (0 ≤ (qf761 23).toInt ∧ (qf761 23).toInt ≤ 4) ∧ (0 ≤ (qf761 24).toInt ∧ (qf761 24).toInt ≤ 1000000) ∧ (0 ≤ (qf761 6).toInt ∧ (qf761 6).toInt ≤ 3) ∧ (0 ≤ (qf761 7).toInt ∧ (qf761 7).toInt ≤ 1) from by first | with_reducible rfl | with_reducible assumption | omega) (show (qf761 1).toInt = (QF742 p0.toNatClampNeg 1).toInt from by first | exact oz_1811ac7fe4 e766 | omega) (show (QF742 p0.toNatClampNeg 6).toInt ≤ (qf761 6).toInt from by first | exact oz_f9b42d1b56 e771 | omega))
            have hpd : PdT (PG j9) (RR p0.toNatClampNeg) (QF782 p0.toNatClampNeg) (QA783 p0.toNatClampNeg) := (by rw [hu_QF782, hu_QA783, va_up_s, va_up_s]; exact PoT.ans hpo (show (qf761 4).toInt = (QF p0.toNatClampNeg 4).toInt ∧ (qf761 5).toInt = (QF p0.toNatClampNeg 5).toInt ∧ (qf761 11).toInt = (QF p0.toNatClampNeg 11).toInt ∧ (qf761 12).toInt = (QF p0.toNatClampNeg 12).toInt ∧ (qf761 13).toInt = (QF p0.toNatClampNeg 13).toInt ∧ (qf761 14).toInt = (QF p0.toNatClampNeg 14).toInt from by first | with_reducible rfl | with_reducible assumption | omega) (show (qf761 10).toInt = (QF p0.toNatClampNeg 10).toInt - ((oslots p1.toInt).length : Int) + 1 from by first | with_reducible rfl | with_reducible assumption | omega) (show (qf761 24).toInt = (QF p0.toNatClampNeg 24).toInt ∨ (p1.toInt = 1 ∧ (qf761 24).toInt = (QF p0.toNatClampNeg 24).toInt + 1) from by first | with_reducible rfl | with_reducible assumption | omega) (fun i9 q9 => ⟨by omega, by rw [← hx5, ← hx4]; exact hkm.2.2.2 i9 q9⟩) (fun k9 a9 b9 c9 d9 => hkm.2.2.1 k9 a9 b9 c9) (show NuU _ _ 9 ((QF p0.toNatClampNeg 10).toInt - ((oslots p1.toInt).length : Int)) _ from (by have q8 := e780; rw [show (z758.toInt) = (QF p0.toNatClampNeg 10).toInt - ((oslots p1.toInt).length : Int) by omega] at q8; exact q8)))
            have hko : KpO QO QF QO781 QF782 p0.toNatClampNeg := (by rw [hu_QO781, hu_QF782]; refine ⟨by rw [va_up_s]; first | done | exact hkm.1, ?_⟩; rw [va_up_s]; exact (show (qf761 1).toInt = (QF p0.toNatClampNeg 1).toInt ∧ (qf761 7).toInt = (QF p0.toNatClampNeg 7).toInt ∧ (qf761 11).toInt = (QF p0.toNatClampNeg 11).toInt from by first | with_reducible rfl | with_reducible assumption | omega))
            have hw : pw D A s.heap _ _ [wd_Mo cs mo mr (fun _ => none) mf739 md740 (gMo PG hq), fm 13 (fPr cs hq qr QO781 QF782 QA783), fm 8 (fPg cs PG)] := hw.sub [0, 2, 1] rfl rfl
            exact px_iret (v := 1) S hr rfl hlk hAe hw (Nat.le_of_ble_eq_true rfl) (Nat.le_of_ble_eq_true rfl) (⟨mf739, md740, QO781, QF782, QA783, rfl, (show 0 ≤ (1 : Int) from by first | decide | omega), (show (1 : Int) ≤ 1 from by first | decide | omega), (show OwQ (1 : Int) (PrA PG RR QO781 QF782 QA783) (PrX PG RR QO781 QF782 QA783 p0.toNatClampNeg ∧ PdT (PG j9) (RR p0.toNatClampNeg) (QF782 p0.toNatClampNeg) (QA783 p0.toNatClampNeg)) from (Or.inr ⟨by omega, hpx, hpd⟩)), (show KpO QO QF QO781 QF782 p0.toNatClampNeg from hko), (show (mf739 0).toInt = (mf 0).toInt from by first | exact e748 | omega), (show (mf739 2).toInt = (mf 2).toInt from by first | exact e749 | omega), (show (mf739 3).toInt = (mf 3).toInt from by first | exact e750 | omega), (show (mf739 7).toInt = (mf 7).toInt from by first | exact e751 | omega), (show (mf739 8).toInt = (mf 8).toInt from by first | exact e752 | omega), (show (mf739 10).toInt = (mf 10).toInt from by first | exact e754 | omega)⟩) d_Mo_ownCall_267
        · have nc730 : p1.toInt = (7 : Int) := (i_eq (x := p1) (y := 7)).mp c730
          refine lv_iconst (v := 1) S.x S.b d_Mo_ownCall_205 (by decide) ?_
          refine lv_goto (tgt := 210) S.x S.b d_Mo_ownCall_206 (by decide) ?_
          refine lv_aload_n S.x S.b d_Mo_ownCall_210 rfl (lv_at hl 4 rfl) ?_
          refine px_get S k_Mpr hT hw 3 0 9 (v := .ref ((qr p0.toNatClampNeg) 9)) rfl rfl rfl (by decide) m10_239 d_Mo_ownCall_211 ?_
          refine lv_aload_n S.x S.b d_Mo_ownCall_214 rfl (lv_at hl 4 rfl) ?_
          refine px_get S k_Mpr hT hw 3 0 10 (v := .int ((QF p0.toNatClampNeg) 10)) rfl rfl rfl (by decide) m11_1 d_Mo_ownCall_215 ?_
          refine lv_iconst (v := 3) S.x S.b d_Mo_ownCall_218 (by decide) ?_
          refine lv_isub S.x S.b d_Mo_ownCall_219 ?_
          have lr784 := Int32.le_toInt ((QF p0.toNatClampNeg) 10)
          have ur784 := Int32.toInt_lt ((QF p0.toNatClampNeg) 10)
          refine lv_topi (fun z785 ez785 => ?_)
          have tz785 : z785.toInt = (((QF p0.toNatClampNeg) 10).toInt - (3 : Int) + 2147483648) % 4294967296 - 2147483648 := by rw [ez785]; exact i_sub ((QF p0.toNatClampNeg) 10) 3
          have lz785 := Int32.le_toInt z785
          have uz785 := Int32.toInt_lt z785
          try replace tz785 : z785.toInt = ((QF p0.toNatClampNeg) 10).toInt - (3 : Int) := by omega
          refine px_iald S hT hw 3 2 (n := 62500) (f := ((QA p0.toNatClampNeg) 9)) rfl (ga_Mpr_9 _ _ _ _ _ _ _) (x := z785) (vp_in_iff.mpr (by constructor <;> omega)) d_Mo_ownCall_220 ?_
          refine lv_topi (fun z786 ez786 => ?_)
          have lz786 := Int32.le_toInt z786
          have uz786 := Int32.toInt_lt z786
          have hmv9 : ∀ c : Int, z369.toInt ≤ c → c < z369.toInt + z4.toInt → 0 ≤ c ∧ c < 37000 := (by rw [hx5, hx4]; exact hpo.arr (by omega))
          refine lv_iload S.x S.b d_Mo_ownCall_221 (lv_at hl 2 rfl) ?_
          refine lv_iload S.x S.b d_Mo_ownCall_223 (lv_at hl 3 rfl) ?_
          have hw : pw D A s.heap _ _ [wd_Mo cs mo mr (fun _ => none) (upd mf 9 0) md (gMo PG hq), fm 8 (fPg cs PG), fm 13 (fPr cs hq qr QO QF QA)] := fm_back (pr := [wd_Mo cs mo mr (fun _ => none) (upd mf 9 0) md (gMo PG hq), fm 8 (fPg cs PG)]) (T := fPr cs hq qr QO QF QA) hw hi1
          have hw : pw D A s.heap _ _ [wd_Mo cs mo mr (fun _ => none) (upd mf 9 0) md (gMo PG hq), fm 13 (fPr cs hq qr QO QF QA), fm 8 (fPg cs PG)] := hw.sub [0, 2, 1] rfl rfl
          refine px_callv (pr := []) (px_runV (As := [.int p0, .int 1, .int z786, .int z369, .int z4]) (rest := []) S (c_mo_moveArray l D cs RR mo mr (upd mf 9 0) md hq qr QO QF QA PG p0 1 z786 z369 z4  (show 0 ≤ p0.toInt from by first | exact g0 | omega) (show p0.toInt < 13 from by first | exact g1 | omega) hpr hpg hmv9 _) hT (pr := []) (pcs := [wd_Mo cs mo mr (fun _ => none) (upd mf 9 0) md (gMo PG hq), fm 13 (fPr cs hq qr QO QF QA), fm 8 (fPg cs PG)]) hw px_X.tt (px_recv hT hw 0 0 rfl rfl rfl) m14_110 m14_107 m14_109 ms_16_10 m1_20 q_Mo_moveArray ⟨Nat.le_of_ble_eq_true rfl, Nat.le_of_ble_eq_true rfl⟩ hl.1 rfl (Nat.le_of_ble_eq_true rfl) d_Mo_ownCall_225 ⟨Nat.le_of_ble_eq_true rfl, Nat.le_of_ble_eq_true rfl⟩) hw hA (fun p797 H locs hp797 hw => ?_)
          obtain ⟨mf792, md793, QO794, QF795, QA796, rfl, e799, e800, e801, e802, e803, e804, e805, e806, e807⟩ := hp797
          replace e799 : PrX PG RR QO794 QF795 QA796 p0.toNatClampNeg := e799
          have hpx := e799
          replace e800 : KpM QO QF QA QO794 QF795 QA796 p0.toNatClampNeg z369.toInt z4.toInt := e800
          have hkm := e800
          replace e801 : (mf792 0).toInt = (mf 0).toInt := e801
          replace e802 : (mf792 2).toInt = (mf 2).toInt := e802
          replace e803 : (mf792 3).toInt = (mf 3).toInt := e803
          replace e804 : (mf792 7).toInt = (mf 7).toInt := e804
          replace e805 : (mf792 8).toInt = (mf 8).toInt := e805
          replace e806 : (mf792 9).toInt = (0 : Int) := e806
          replace e807 : (mf792 10).toInt = (mf 10).toInt := e807
          replace hw : pw D A s.heap H locs [wd_Mo cs mo mr (fun _ => none) mf792 md793 (gMo PG hq), fm 13 (fPr cs hq qr QO794 QF795 QA796), fm 8 (fPg cs PG)] := hw
          refine lv_iconst (v := 3) S.x S.b d_Mo_ownCall_228 (by decide) ?_
          refine lv_istore (lv' := [(7, .int 3), (6, .int 1), (5, .int z369), (4, .int z4), (3, .ref (hq p0.toNatClampNeg)), (0, .ref mo), (1, .int p0), (2, .int p1)]) S.x S.b d_Mo_ownCall_229 hl (by decide) rfl (fun ls hl => ?_)
          refine lv_goto (tgt := 241) S.x S.b d_Mo_ownCall_231 (by decide) ?_
          refine lv_iload S.x S.b d_Mo_ownCall_241 (lv_at hl 1 rfl) ?_
          refine lv_if_eq (tgt := 265) S.x S.b d_Mo_ownCall_243 (by decide) (fun c808 => ?_) (fun c808 => ?_)
          · exact absurd c808 (by decide)
          ·
            refine lv_aload_n S.x S.b d_Mo_ownCall_246 rfl (lv_at hl 4 rfl) ?_
            have hkf := hkm.2.1; unfold KpF at hkf
            refine lv_aload_n S.x S.b d_Mo_ownCall_247 rfl (lv_at hl 4 rfl) ?_
            have hw : pw D A s.heap _ _ [wd_Mo cs mo mr (fun _ => none) mf792 md793 (gMo PG hq), fm 8 (fPg cs PG), fm 13 (fPr cs hq qr QO794 QF795 QA796)] := hw.sub [0, 2, 1] rfl rfl
            have hc809 := cl_nat (x := p0) (by first | exact g0 | omega)
            have hi809 : p0.toNatClampNeg < 13 := by first | exact hi1 | omega
            have hw : pw D A s.heap _ _ [wd_Mo cs mo mr (fun _ => none) mf792 md793 (gMo PG hq), fm 8 (fPg cs PG), fo 13 (fPr cs hq qr QO794 QF795 QA796) p0.toNatClampNeg, wd_Mpr cs (hq p0.toNatClampNeg) (qr p0.toNatClampNeg) (fun _ => QO794 p0.toNatClampNeg) (QF795 p0.toNatClampNeg) (QA796 p0.toNatClampNeg) (fun _ _ => none)] := fm_out (pr := [wd_Mo cs mo mr (fun _ => none) mf792 md793 (gMo PG hq), fm 8 (fPg cs PG)]) (T := fPr cs hq qr QO794 QF795 QA796) hw hi809
            have hpb809 := hpx.2.2
            unfold PsB at hpb809
            refine px_get S k_Mpr hT hw 3 0 10 (v := .int ((QF795 p0.toNatClampNeg) 10)) rfl rfl rfl (by decide) m11_1 d_Mo_ownCall_248 ?_
            refine lv_iload S.x S.b d_Mo_ownCall_251 (lv_at hl 0 rfl) ?_
            refine lv_isub S.x S.b d_Mo_ownCall_253 ?_
            have lr810 := Int32.le_toInt ((QF795 p0.toNatClampNeg) 10)
            have ur810 := Int32.toInt_lt ((QF795 p0.toNatClampNeg) 10)
            refine lv_topi (fun z811 ez811 => ?_)
            have tz811 : z811.toInt = (((QF795 p0.toNatClampNeg) 10).toInt - (3 : Int) + 2147483648) % 4294967296 - 2147483648 := by rw [ez811]; exact i_sub ((QF795 p0.toNatClampNeg) 10) 3
            have lz811 := Int32.le_toInt z811
            have uz811 := Int32.toInt_lt z811
            try replace tz811 : z811.toInt = ((QF795 p0.toNatClampNeg) 10).toInt - (3 : Int) := by omega
            refine px_put S k_Mpr hT hw 3 0 10 rfl rfl (by decide) m11_1 rfl rfl rfl (Nat.le_of_ble_eq_true rfl) d_Mo_ownCall_254 (w' := wd_Mpr cs (hq p0.toNatClampNeg) (qr p0.toNatClampNeg) (fun _ => QO794 p0.toNatClampNeg) (upd (QF795 p0.toNatClampNeg) 10 z811) (QA796 p0.toNatClampNeg) (fun _ _ => none)) (ps' := [wd_Mo cs mo mr (fun _ => none) mf792 md793 (gMo PG hq), fm 8 (fPg cs PG), fo 13 (fPr cs hq qr QO794 QF795 QA796) p0.toNatClampNeg, wd_Mpr cs (hq p0.toNatClampNeg) (qr p0.toNatClampNeg) (fun _ => QO794 p0.toNatClampNeg) (upd (QF795 p0.toNatClampNeg) 10 z811) (QA796 p0.toNatClampNeg) (fun _ _ => none)]) rfl rfl (fun H locs hw => ?_)
            refine lv_aload_n S.x S.b d_Mo_ownCall_257 rfl (lv_at hl 4 rfl) ?_
            refine lv_aload_n S.x S.b d_Mo_ownCall_258 rfl (lv_at hl 5 rfl) ?_
            refine px_get S k_Mo hT hw 0 0 9 (v := .int (mf792 9)) rfl rfl rfl (by decide) m11_87 d_Mo_ownCall_259 ?_
            refine px_callv (pr := [wd_Mo cs mo mr (fun _ => none) mf792 md793 (gMo PG hq), fm 8 (fPg cs PG), fo 13 (fPr cs hq qr QO794 QF795 QA796) p0.toNatClampNeg]) (px_runV (As := [.int (mf792 9)]) (rest := []) S (c_mq_give l D cs (hq p0.toNatClampNeg) (qr p0.toNatClampNeg) (fun _ _ => none) (fun _ => QO794 p0.toNatClampNeg) (upd (QF795 p0.toNatClampNeg) 10 z811) (QA796 p0.toNatClampNeg) (mf792 9)  (show 0 ≤ z811.toInt from by first | with_reducible rfl | with_reducible assumption | omega) (show z811.toInt < 62500 from by first | with_reducible rfl | with_reducible assumption | omega) _) hT (pr := [wd_Mo cs mo mr (fun _ => none) mf792 md793 (gMo PG hq), fm 8 (fPg cs PG), fo 13 (fPr cs hq qr QO794 QF795 QA796) p0.toNatClampNeg]) (pcs := [wd_Mpr cs (hq p0.toNatClampNeg) (qr p0.toNatClampNeg) (fun _ => QO794 p0.toNatClampNeg) (upd (QF795 p0.toNatClampNeg) 10 z811) (QA796 p0.toNatClampNeg) (fun _ _ => none)]) hw px_X.tt (px_recv hT hw 3 0 rfl rfl rfl) m13_161 m14_111 m13_159 m13_160 m1_22 q_Mpr_give ⟨Nat.le_of_ble_eq_true rfl, Nat.le_of_ble_eq_true rfl⟩ hl.1 rfl (Nat.le_of_ble_eq_true rfl) d_Mo_ownCall_262 ⟨Nat.le_of_ble_eq_true rfl, Nat.le_of_ble_eq_true rfl⟩) hw hA (fun p816 H locs hp816 hw => ?_)
            obtain ⟨qf814, qa815, rfl, e818, e819, e820, e821, e822, e823, e824, e825, e826, e827, e828, e829, e830, e831, e832, e833⟩ := hp816
            replace e818 : (qf814 10).toInt = z811.toInt + 1 := e818
            replace e819 : (qf814 1).toInt = ((QF795 p0.toNatClampNeg) 1).toInt := e819
            replace e820 : (qf814 2).toInt = ((QF795 p0.toNatClampNeg) 2).toInt := e820
            replace e821 : (qf814 3).toInt = ((QF795 p0.toNatClampNeg) 3).toInt := e821
            replace e822 : (qf814 4).toInt = ((QF795 p0.toNatClampNeg) 4).toInt := e822
            replace e823 : (qf814 5).toInt = ((QF795 p0.toNatClampNeg) 5).toInt := e823
            replace e824 : (qf814 6).toInt = ((QF795 p0.toNatClampNeg) 6).toInt := e824
            replace e825 : (qf814 7).toInt = ((QF795 p0.toNatClampNeg) 7).toInt := e825
            replace e826 : (qf814 11).toInt = ((QF795 p0.toNatClampNeg) 11).toInt := e826
            replace e827 : (qf814 12).toInt = ((QF795 p0.toNatClampNeg) 12).toInt := e827
            replace e828 : (qf814 13).toInt = ((QF795 p0.toNatClampNeg) 13).toInt := e828
            replace e829 : (qf814 14).toInt = ((QF795 p0.toNatClampNeg) 14).toInt := e829
            replace e830 : (qf814 21).toInt = ((QF795 p0.toNatClampNeg) 21).toInt := e830
            replace e831 : (qf814 23).toInt = ((QF795 p0.toNatClampNeg) 23).toInt := e831
            replace e832 : (qf814 24).toInt = ((QF795 p0.toNatClampNeg) 24).toInt := e832
            replace e833 : NuU (QA796 p0.toNatClampNeg) qa815 9 z811.toInt (mf792 9) := e833
            skip
            replace hw : pw D A s.heap H locs [wd_Mo cs mo mr (fun _ => none) mf792 md793 (gMo PG hq), fm 8 (fPg cs PG), fo 13 (fPr cs hq qr QO794 QF795 QA796) p0.toNatClampNeg, wd_Mpr cs (hq p0.toNatClampNeg) (qr p0.toNatClampNeg) (fun _ => QO794 p0.toNatClampNeg) qf814 qa815 (fun _ _ => none)] := hw
            refine lv_iload S.x S.b d_Mo_ownCall_265 (lv_at hl 1 rfl) ?_
            have hw := fpr_in (pr := [wd_Mo cs mo mr (fun _ => none) mf792 md793 (gMo PG hq), fm 8 (fPg cs PG)]) hw hi809
            obtain ⟨QO834, hu_QO834⟩ : ∃ y : Nat → Option Nat, y = va_up QO794 p0.toNatClampNeg ((fun _ => QO794 p0.toNatClampNeg) 0) := ⟨_, rfl⟩
            obtain ⟨QF835, hu_QF835⟩ : ∃ y : Nat → Nat → Int32, y = va_up QF795 p0.toNatClampNeg qf814 := ⟨_, rfl⟩
            obtain ⟨QA836, hu_QA836⟩ : ∃ y : Nat → Nat → Nat → Int32, y = va_up QA796 p0.toNatClampNeg qa815 := ⟨_, rfl⟩
            have hw : pw D A s.heap _ _ [wd_Mo cs mo mr (fun _ => none) mf792 md793 (gMo PG hq), fm 8 (fPg cs PG), fm 13 (fPr cs hq qr QO834 QF835 QA836)] := (by rw [hu_QO834, hu_QF835, hu_QA836]; exact hw)
            have hpx : PrX PG RR QO834 QF835 QA836 p0.toNatClampNeg := (by rw [hu_QO834, hu_QF835, hu_QA836]; exact PrX.up hpx (show (0 ≤ (qf814 1).toInt ∧ (qf814 1).toInt ≤ 1) ∧ (0 ≤ (qf814 21).toInt ∧ (qf814 21).toInt ≤ 4) ∧ (0 ≤ (qf814 23).toInt ∧ (qf814 23).toInt ≤ 4) ∧ (0 ≤ (qf814 24).toInt ∧ (qf814 24).toInt ≤ 1000000) ∧ (0 ≤ (qf814 6).toInt ∧ (qf814 6).toInt ≤ 3) ∧ (0 ≤ (qf814 7).toInt ∧ (qf814 7).toInt ≤ 1) from by first | with_reducible rfl | with_reducible assumption | omega) (show (qf814 1).toInt = (QF795 p0.toNatClampNeg 1).toInt from by first | exact oz_1811ac7fe4 e819 | omega) (show (QF795 p0.toNatClampNeg 6).toInt ≤ (qf814 6).toInt from by first | exact oz_f9b42d1b56 e824 | omega))
            have hpd : PdT (PG j9) (RR p0.toNatClampNeg) (QF835 p0.toNatClampNeg) (QA836 p0.toNatClampNeg) := (by rw [hu_QF835, hu_QA836, va_up_s, va_up_s]; exact PoT.ans hpo (show (qf814 4).toInt = (QF p0.toNatClampNeg 4).toInt ∧ (qf814 5).toInt = (QF p0.toNatClampNeg 5).toInt ∧ (qf814 11).toInt = (QF p0.toNatClampNeg 11).toInt ∧ (qf814 12).toInt = (QF p0.toNatClampNeg 12).toInt ∧ (qf814 13).toInt = (QF p0.toNatClampNeg 13).toInt ∧ (qf814 14).toInt = (QF p0.toNatClampNeg 14).toInt from by first | with_reducible rfl | with_reducible assumption | omega) (show (qf814 10).toInt = (QF p0.toNatClampNeg 10).toInt - ((oslots p1.toInt).length : Int) + 1 from by first | with_reducible rfl | with_reducible assumption | omega) (show (qf814 24).toInt = (QF p0.toNatClampNeg 24).toInt ∨ (p1.toInt = 1 ∧ (qf814 24).toInt = (QF p0.toNatClampNeg 24).toInt + 1) from by first | with_reducible rfl | with_reducible assumption | omega) (fun i9 q9 => ⟨by omega, by rw [← hx5, ← hx4]; exact hkm.2.2.2 i9 q9⟩) (fun k9 a9 b9 c9 d9 => hkm.2.2.1 k9 a9 b9 c9) (show NuU _ _ 9 ((QF p0.toNatClampNeg 10).toInt - ((oslots p1.toInt).length : Int)) _ from (by have q8 := e833; rw [show (z811.toInt) = (QF p0.toNatClampNeg 10).toInt - ((oslots p1.toInt).length : Int) by omega] at q8; exact q8)))
            have hko : KpO QO QF QO834 QF835 p0.toNatClampNeg := (by rw [hu_QO834, hu_QF835]; refine ⟨by rw [va_up_s]; first | done | exact hkm.1, ?_⟩; rw [va_up_s]; exact (show (qf814 1).toInt = (QF p0.toNatClampNeg 1).toInt ∧ (qf814 7).toInt = (QF p0.toNatClampNeg 7).toInt ∧ (qf814 11).toInt = (QF p0.toNatClampNeg 11).toInt from by first | with_reducible rfl | with_reducible assumption | omega))
            have hw : pw D A s.heap _ _ [wd_Mo cs mo mr (fun _ => none) mf792 md793 (gMo PG hq), fm 13 (fPr cs hq qr QO834 QF835 QA836), fm 8 (fPg cs PG)] := hw.sub [0, 2, 1] rfl rfl
            exact px_iret (v := 1) S hr rfl hlk hAe hw (Nat.le_of_ble_eq_true rfl) (Nat.le_of_ble_eq_true rfl) (⟨mf792, md793, QO834, QF835, QA836, rfl, (show 0 ≤ (1 : Int) from by first | decide | omega), (show (1 : Int) ≤ 1 from by first | decide | omega), (show OwQ (1 : Int) (PrA PG RR QO834 QF835 QA836) (PrX PG RR QO834 QF835 QA836 p0.toNatClampNeg ∧ PdT (PG j9) (RR p0.toNatClampNeg) (QF835 p0.toNatClampNeg) (QA836 p0.toNatClampNeg)) from (Or.inr ⟨by omega, hpx, hpd⟩)), (show KpO QO QF QO834 QF835 p0.toNatClampNeg from hko), (show (mf792 0).toInt = (mf 0).toInt from by first | exact e801 | omega), (show (mf792 2).toInt = (mf 2).toInt from by first | exact e802 | omega), (show (mf792 3).toInt = (mf 3).toInt from by first | exact e803 | omega), (show (mf792 7).toInt = (mf 7).toInt from by first | exact e804 | omega), (show (mf792 8).toInt = (mf 8).toInt from by first | exact e805 | omega), (show (mf792 10).toInt = (mf 10).toInt from by first | exact e807 | omega)⟩) d_Mo_ownCall_267
