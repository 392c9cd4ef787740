theorem oz_06db467756 {a0 a1 a2 : Int} (h0 : a0 = a1) (h1 : a1 = a2) (h2 : a2 = 0) (h3 : 0 ≤ a0) : a0 = 0 := by omega
theorem oz_98a8357fde {a0 a1 a2 : Int} (h0 : a0 = a1 + (1 : Int)) (h1 : a2 = 3 * a1) (h2 : a2 ≤ 300) : a0 ≤ 101 := by omega
theorem oz_97e7e0cad7 {a0 a1 : Int} (h0 : a1 = a0 + (3 : Int)) (h1 : a1 ≤ (303 : Int)) : a0 ≤ 300 := by omega
theorem oz_ff3084e3c1 {a0 a1 a2 a3 a4 : Int} (h0 : a2 = a1) (h1 : a0 = a3) (h2 : a4 = a2) (h3 : a3 = a4) : a0 = a1 := by omega
theorem m6_216 : Cond.fieldLink "HomeSystem$TextProcess" 25 "HomeSystem$TextProcess" "program" "LHomeSystem$Program;" ∈ AL := AL_6 (List.mem_of_getElem? (i := 216) rfl) rfl
theorem m9_24 : Cond.methodLink "HomeSystem$TextProcess" 171 ⟨"HomeSystem$Program", "aboutFunction", "(II)I"⟩ ∈ AL := AL_9 (List.mem_of_getElem? (i := 24) rfl) rfl
theorem m9_27 : Cond.code ⟨"HomeSystem$Program", "aboutFunction", "(II)I"⟩ prog_7_method_5_code 4 (Option.some FieldType.int) ∈ AL := AL_9 (List.mem_of_getElem? (i := 27) rfl) rfl
theorem m1_16 : Cond.initialized "HomeSystem$Program" ∈ AL := AL_1 (List.mem_of_getElem? (i := 16) rfl) rfl
theorem m9_26 : Cond.selects "HomeSystem$Program" ⟨"HomeSystem$Program", "aboutFunction", "(II)I"⟩ ⟨"HomeSystem$Program", "aboutFunction", "(II)I"⟩ ∈ AL := AL_9 (List.mem_of_getElem? (i := 26) rfl) rfl
theorem m9_25 : Cond.instanceMethod ⟨"HomeSystem$Program", "aboutFunction", "(II)I"⟩ ∈ AL := AL_9 (List.mem_of_getElem? (i := 25) rfl) rfl
theorem m9_44 : Cond.methodLink "HomeSystem$TextProcess" 129 ⟨"HomeSystem$TextProcess", "rowStart", "(II)I"⟩ ∈ AL := AL_9 (List.mem_of_getElem? (i := 44) rfl) rfl
theorem m9_47 : Cond.code ⟨"HomeSystem$TextProcess", "rowStart", "(II)I"⟩ prog_11_method_15_code 3 (Option.some FieldType.int) ∈ AL := AL_9 (List.mem_of_getElem? (i := 47) rfl) rfl
theorem ms_7_7 : Cond.selects "HomeSystem$TextProcess" ⟨"HomeSystem$TextProcess", "rowStart", "(II)I"⟩ ⟨"HomeSystem$TextProcess", "rowStart", "(II)I"⟩ ∈ AL := AL_p (q := (⟨"HomeSystem$TextProcess", "rowStart", "(II)I"⟩, 25)) (by unfold lw_privs; exact List.mem_append_right _ (List.mem_append_right _ (List.mem_append_right _ (List.mem_append_right _ (List.mem_append_right _ (List.mem_append_right _ (List.mem_append_left _ (List.mem_of_getElem? (i := 7) rfl))))))))
theorem m9_46 : Cond.instanceMethod ⟨"HomeSystem$TextProcess", "rowStart", "(II)I"⟩ ∈ AL := AL_9 (List.mem_of_getElem? (i := 46) rfl) rfl
theorem m9_48 : Cond.methodLink "HomeSystem$TextProcess" 136 ⟨"HomeSystem$TextProcess", "lookUp", "(III)V"⟩ ∈ AL := AL_9 (List.mem_of_getElem? (i := 48) rfl) rfl
theorem m9_51 : Cond.code ⟨"HomeSystem$TextProcess", "lookUp", "(III)V"⟩ prog_11_method_17_code 4 (Option.none : Option Jvm.ClassFile.FieldType) ∈ AL := AL_9 (List.mem_of_getElem? (i := 51) rfl) rfl
theorem ms_7_8 : Cond.selects "HomeSystem$TextProcess" ⟨"HomeSystem$TextProcess", "lookUp", "(III)V"⟩ ⟨"HomeSystem$TextProcess", "lookUp", "(III)V"⟩ ∈ AL := AL_p (q := (⟨"HomeSystem$TextProcess", "lookUp", "(III)V"⟩, 25)) (by unfold lw_privs; exact List.mem_append_right _ (List.mem_append_right _ (List.mem_append_right _ (List.mem_append_right _ (List.mem_append_right _ (List.mem_append_right _ (List.mem_append_left _ (List.mem_of_getElem? (i := 8) rfl))))))))
theorem m9_50 : Cond.instanceMethod ⟨"HomeSystem$TextProcess", "lookUp", "(III)V"⟩ ∈ AL := AL_9 (List.mem_of_getElem? (i := 50) rfl) rfl
theorem m9_56 : Cond.methodLink "HomeSystem$TextProcess" 139 ⟨"HomeSystem$TextProcess", "keep", "(II)I"⟩ ∈ AL := AL_9 (List.mem_of_getElem? (i := 56) rfl) rfl
theorem m9_59 : Cond.code ⟨"HomeSystem$TextProcess", "keep", "(II)I"⟩ prog_11_method_19_code 4 (Option.some FieldType.int) ∈ AL := AL_9 (List.mem_of_getElem? (i := 59) rfl) rfl
theorem ms_7_10 : Cond.selects "HomeSystem$TextProcess" ⟨"HomeSystem$TextProcess", "keep", "(II)I"⟩ ⟨"HomeSystem$TextProcess", "keep", "(II)I"⟩ ∈ AL := AL_p (q := (⟨"HomeSystem$TextProcess", "keep", "(II)I"⟩, 25)) (by unfold lw_privs; exact List.mem_append_right _ (List.mem_append_right _ (List.mem_append_right _ (List.mem_append_right _ (List.mem_append_right _ (List.mem_append_right _ (List.mem_append_left _ (List.mem_of_getElem? (i := 10) rfl))))))))
theorem m9_58 : Cond.instanceMethod ⟨"HomeSystem$TextProcess", "keep", "(II)I"⟩ ∈ AL := AL_9 (List.mem_of_getElem? (i := 58) rfl) rfl
theorem m9_66 : Cond.methodLink "HomeSystem$TextProcess" 123 ⟨"HomeSystem$TextProcess", "binary", "(I)V"⟩ ∈ AL := AL_9 (List.mem_of_getElem? (i := 66) rfl) rfl
theorem m9_69 : Cond.code ⟨"HomeSystem$TextProcess", "binary", "(I)V"⟩ prog_11_method_14_code 4 (Option.none : Option Jvm.ClassFile.FieldType) ∈ AL := AL_9 (List.mem_of_getElem? (i := 69) rfl) rfl
theorem ms_7_12 : Cond.selects "HomeSystem$TextProcess" ⟨"HomeSystem$TextProcess", "binary", "(I)V"⟩ ⟨"HomeSystem$TextProcess", "binary", "(I)V"⟩ ∈ AL := AL_p (q := (⟨"HomeSystem$TextProcess", "binary", "(I)V"⟩, 25)) (by unfold lw_privs; exact List.mem_append_right _ (List.mem_append_right _ (List.mem_append_right _ (List.mem_append_right _ (List.mem_append_right _ (List.mem_append_right _ (List.mem_append_left _ (List.mem_of_getElem? (i := 12) rfl))))))))
theorem m9_68 : Cond.instanceMethod ⟨"HomeSystem$TextProcess", "binary", "(I)V"⟩ ∈ AL := AL_9 (List.mem_of_getElem? (i := 68) rfl) rfl
theorem m9_70n : Cond.methodLinkNest "HomeSystem$TextProcess" 126 ⟨"HomeSystem", "reckonUnary", "(II)I"⟩ "HomeSystem" ∈ tables_1 := by unfold tables_1; exact List.mem_append_right _ (List.mem_append_right _ (List.mem_append_right _ (List.mem_append_right _ (List.mem_append_right _ (List.mem_append_right _ (List.mem_append_right _ (List.mem_append_right _ (List.mem_append_left _ (List.mem_of_getElem? (i := 70) rfl)))))))))
theorem m4_192 : Cond.code ⟨"HomeSystem", "reckonUnary", "(II)I"⟩ prog_1_method_21_code 2 (Option.some FieldType.int) ∈ AL := AL_4 (List.mem_of_getElem? (i := 192) rfl) rfl
theorem m4_191 : Cond.static ⟨"HomeSystem", "reckonUnary", "(II)I"⟩ ∈ AL := AL_4 (List.mem_of_getElem? (i := 191) rfl) rfl
theorem m9_40 : Cond.methodLink "HomeSystem$TextProcess" 132 ⟨"HomeSystem$TextProcess", "rowLength", "(III)I"⟩ ∈ AL := AL_9 (List.mem_of_getElem? (i := 40) rfl) rfl
theorem m9_43 : Cond.code ⟨"HomeSystem$TextProcess", "rowLength", "(III)I"⟩ prog_11_method_16_code 4 (Option.some FieldType.int) ∈ AL := AL_9 (List.mem_of_getElem? (i := 43) rfl) rfl
theorem ms_7_6 : Cond.selects "HomeSystem$TextProcess" ⟨"HomeSystem$TextProcess", "rowLength", "(III)I"⟩ ⟨"HomeSystem$TextProcess", "rowLength", "(III)I"⟩ ∈ AL := AL_p (q := (⟨"HomeSystem$TextProcess", "rowLength", "(III)I"⟩, 25)) (by unfold lw_privs; exact List.mem_append_right _ (List.mem_append_right _ (List.mem_append_right _ (List.mem_append_right _ (List.mem_append_right _ (List.mem_append_right _ (List.mem_append_left _ (List.mem_of_getElem? (i := 6) rfl))))))))
theorem m9_42 : Cond.instanceMethod ⟨"HomeSystem$TextProcess", "rowLength", "(III)I"⟩ ∈ AL := AL_9 (List.mem_of_getElem? (i := 42) rfl) rfl
theorem m9_52 : Cond.methodLink "HomeSystem$TextProcess" 155 ⟨"HomeSystem$TextProcess", "look", "()I"⟩ ∈ AL := AL_9 (List.mem_of_getElem? (i := 52) rfl) rfl
theorem m9_55 : Cond.code ⟨"HomeSystem$TextProcess", "look", "()I"⟩ prog_11_method_18_code 1 (Option.some FieldType.int) ∈ AL := AL_9 (List.mem_of_getElem? (i := 55) rfl) rfl
theorem ms_7_9 : Cond.selects "HomeSystem$TextProcess" ⟨"HomeSystem$TextProcess", "look", "()I"⟩ ⟨"HomeSystem$TextProcess", "look", "()I"⟩ ∈ AL := AL_p (q := (⟨"HomeSystem$TextProcess", "look", "()I"⟩, 25)) (by unfold lw_privs; exact List.mem_append_right _ (List.mem_append_right _ (List.mem_append_right _ (List.mem_append_right _ (List.mem_append_right _ (List.mem_append_right _ (List.mem_append_left _ (List.mem_of_getElem? (i := 9) rfl))))))))
theorem m9_54 : Cond.instanceMethod ⟨"HomeSystem$TextProcess", "look", "()I"⟩ ∈ AL := AL_9 (List.mem_of_getElem? (i := 54) rfl) rfl
abbrev b_Txp_call : ByteArray := prog_11_method_23_code
def y_Txp_call : MethodName := ⟨"HomeSystem$TextProcess", "call", "(I)V"⟩
theorem d_Txp_call_0 : decode b_Txp_call 0 = .ok (.aload_n 0, 1) := by decide +kernel
theorem d_Txp_call_1 : decode b_Txp_call 1 = .ok (.getfield 25, 3) := by decide +kernel
theorem d_Txp_call_4 : decode b_Txp_call 4 = .ok (.iload_n 1, 1) := by decide +kernel
theorem d_Txp_call_5 : decode b_Txp_call 5 = .ok (.iconst 1, 1) := by decide +kernel
theorem d_Txp_call_6 : decode b_Txp_call 6 = .ok (.invokevirtual 171, 3) := by decide +kernel
theorem d_Txp_call_9 : decode b_Txp_call 9 = .ok (.istore_n 2, 1) := by decide +kernel
theorem d_Txp_call_10 : decode b_Txp_call 10 = .ok (.aload_n 0, 1) := by decide +kernel
theorem d_Txp_call_11 : decode b_Txp_call 11 = .ok (.getfield 25, 3) := by decide +kernel
theorem d_Txp_call_14 : decode b_Txp_call 14 = .ok (.iload_n 1, 1) := by decide +kernel
theorem d_Txp_call_15 : decode b_Txp_call 15 = .ok (.iconst 2, 1) := by decide +kernel
theorem d_Txp_call_16 : decode b_Txp_call 16 = .ok (.invokevirtual 171, 3) := by decide +kernel
theorem d_Txp_call_19 : decode b_Txp_call 19 = .ok (.istore_n 3, 1) := by decide +kernel
theorem d_Txp_call_20 : decode b_Txp_call 20 = .ok (.iconst 3, 1) := by decide +kernel
theorem d_Txp_call_21 : decode b_Txp_call 21 = .ok (.aload_n 0, 1) := by decide +kernel
theorem d_Txp_call_22 : decode b_Txp_call 22 = .ok (.getfield 47, 3) := by decide +kernel
theorem d_Txp_call_25 : decode b_Txp_call 25 = .ok (.imul, 1) := by decide +kernel
theorem d_Txp_call_26 : decode b_Txp_call 26 = .ok (.istore 4, 2) := by decide +kernel
theorem d_Txp_call_28 : decode b_Txp_call 28 = .ok (.iload_n 2, 1) := by decide +kernel
theorem d_Txp_call_29 : decode b_Txp_call 29 = .ok (.aload_n 0, 1) := by decide +kernel
theorem d_Txp_call_30 : decode b_Txp_call 30 = .ok (.getfield 33, 3) := by decide +kernel
theorem d_Txp_call_33 : decode b_Txp_call 33 = .ok (.if_icmp .gt 15, 3) := by decide +kernel
theorem d_Txp_call_36 : decode b_Txp_call 36 = .ok (.iload 4, 2) := by decide +kernel
theorem d_Txp_call_38 : decode b_Txp_call 38 = .ok (.iconst 3, 1) := by decide +kernel
theorem d_Txp_call_39 : decode b_Txp_call 39 = .ok (.iadd, 1) := by decide +kernel
theorem d_Txp_call_40 : decode b_Txp_call 40 = .ok (.aload_n 0, 1) := by decide +kernel
theorem d_Txp_call_41 : decode b_Txp_call 41 = .ok (.getfield 18, 3) := by decide +kernel
theorem d_Txp_call_44 : decode b_Txp_call 44 = .ok (.arraylength, 1) := by decide +kernel
theorem d_Txp_call_45 : decode b_Txp_call 45 = .ok (.if_icmp .le 10, 3) := by decide +kernel
theorem d_Txp_call_48 : decode b_Txp_call 48 = .ok (.aload_n 0, 1) := by decide +kernel
theorem d_Txp_call_49 : decode b_Txp_call 49 = .ok (.iconst 4, 1) := by decide +kernel
theorem d_Txp_call_50 : decode b_Txp_call 50 = .ok (.iconst 0, 1) := by decide +kernel
theorem d_Txp_call_51 : decode b_Txp_call 51 = .ok (.invokevirtual 105, 3) := by decide +kernel
theorem d_Txp_call_54 : decode b_Txp_call 54 = .ok (.return_, 1) := by decide +kernel
theorem d_Txp_call_55 : decode b_Txp_call 55 = .ok (.aload_n 0, 1) := by decide +kernel
theorem d_Txp_call_56 : decode b_Txp_call 56 = .ok (.dup, 1) := by decide +kernel
theorem d_Txp_call_57 : decode b_Txp_call 57 = .ok (.getfield 33, 3) := by decide +kernel
theorem d_Txp_call_60 : decode b_Txp_call 60 = .ok (.iload_n 2, 1) := by decide +kernel
theorem d_Txp_call_61 : decode b_Txp_call 61 = .ok (.isub, 1) := by decide +kernel
theorem d_Txp_call_62 : decode b_Txp_call 62 = .ok (.putfield 33, 3) := by decide +kernel
theorem d_Txp_call_65 : decode b_Txp_call 65 = .ok (.aload_n 0, 1) := by decide +kernel
theorem d_Txp_call_66 : decode b_Txp_call 66 = .ok (.getfield 18, 3) := by decide +kernel
theorem d_Txp_call_69 : decode b_Txp_call 69 = .ok (.iload 4, 2) := by decide +kernel
theorem d_Txp_call_71 : decode b_Txp_call 71 = .ok (.aload_n 0, 1) := by decide +kernel
theorem d_Txp_call_72 : decode b_Txp_call 72 = .ok (.getfield 41, 3) := by decide +kernel
theorem d_Txp_call_75 : decode b_Txp_call 75 = .ok (.iastore, 1) := by decide +kernel
theorem d_Txp_call_76 : decode b_Txp_call 76 = .ok (.aload_n 0, 1) := by decide +kernel
theorem d_Txp_call_77 : decode b_Txp_call 77 = .ok (.getfield 18, 3) := by decide +kernel
theorem d_Txp_call_80 : decode b_Txp_call 80 = .ok (.iload 4, 2) := by decide +kernel
theorem d_Txp_call_82 : decode b_Txp_call 82 = .ok (.iconst 1, 1) := by decide +kernel
theorem d_Txp_call_83 : decode b_Txp_call 83 = .ok (.iadd, 1) := by decide +kernel
theorem d_Txp_call_84 : decode b_Txp_call 84 = .ok (.aload_n 0, 1) := by decide +kernel
theorem d_Txp_call_85 : decode b_Txp_call 85 = .ok (.getfield 50, 3) := by decide +kernel
theorem d_Txp_call_88 : decode b_Txp_call 88 = .ok (.iastore, 1) := by decide +kernel
theorem d_Txp_call_89 : decode b_Txp_call 89 = .ok (.aload_n 0, 1) := by decide +kernel
theorem d_Txp_call_90 : decode b_Txp_call 90 = .ok (.getfield 18, 3) := by decide +kernel
theorem d_Txp_call_93 : decode b_Txp_call 93 = .ok (.iload 4, 2) := by decide +kernel
theorem d_Txp_call_95 : decode b_Txp_call 95 = .ok (.iconst 2, 1) := by decide +kernel
theorem d_Txp_call_96 : decode b_Txp_call 96 = .ok (.iadd, 1) := by decide +kernel
theorem d_Txp_call_97 : decode b_Txp_call 97 = .ok (.iload_n 2, 1) := by decide +kernel
theorem d_Txp_call_98 : decode b_Txp_call 98 = .ok (.iastore, 1) := by decide +kernel
theorem d_Txp_call_99 : decode b_Txp_call 99 = .ok (.aload_n 0, 1) := by decide +kernel
theorem d_Txp_call_100 : decode b_Txp_call 100 = .ok (.dup, 1) := by decide +kernel
theorem d_Txp_call_101 : decode b_Txp_call 101 = .ok (.getfield 47, 3) := by decide +kernel
theorem d_Txp_call_104 : decode b_Txp_call 104 = .ok (.iconst 1, 1) := by decide +kernel
theorem d_Txp_call_105 : decode b_Txp_call 105 = .ok (.iadd, 1) := by decide +kernel
theorem d_Txp_call_106 : decode b_Txp_call 106 = .ok (.putfield 47, 3) := by decide +kernel
theorem d_Txp_call_109 : decode b_Txp_call 109 = .ok (.aload_n 0, 1) := by decide +kernel
theorem d_Txp_call_110 : decode b_Txp_call 110 = .ok (.aload_n 0, 1) := by decide +kernel
theorem d_Txp_call_111 : decode b_Txp_call 111 = .ok (.getfield 53, 3) := by decide +kernel
theorem d_Txp_call_114 : decode b_Txp_call 114 = .ok (.putfield 50, 3) := by decide +kernel
theorem d_Txp_call_117 : decode b_Txp_call 117 = .ok (.aload_n 0, 1) := by decide +kernel
theorem d_Txp_call_118 : decode b_Txp_call 118 = .ok (.dup, 1) := by decide +kernel
theorem d_Txp_call_119 : decode b_Txp_call 119 = .ok (.getfield 53, 3) := by decide +kernel
theorem d_Txp_call_122 : decode b_Txp_call 122 = .ok (.iload_n 2, 1) := by decide +kernel
theorem d_Txp_call_123 : decode b_Txp_call 123 = .ok (.iadd, 1) := by decide +kernel
theorem d_Txp_call_124 : decode b_Txp_call 124 = .ok (.putfield 53, 3) := by decide +kernel
theorem d_Txp_call_127 : decode b_Txp_call 127 = .ok (.iload_n 2, 1) := by decide +kernel
theorem d_Txp_call_128 : decode b_Txp_call 128 = .ok (.iconst 1, 1) := by decide +kernel
theorem d_Txp_call_129 : decode b_Txp_call 129 = .ok (.isub, 1) := by decide +kernel
theorem d_Txp_call_130 : decode b_Txp_call 130 = .ok (.istore 5, 2) := by decide +kernel
theorem d_Txp_call_132 : decode b_Txp_call 132 = .ok (.iload 5, 2) := by decide +kernel
theorem d_Txp_call_134 : decode b_Txp_call 134 = .ok (.ifCond .lt 34, 3) := by decide +kernel
theorem d_Txp_call_137 : decode b_Txp_call 137 = .ok (.aload_n 0, 1) := by decide +kernel
theorem d_Txp_call_138 : decode b_Txp_call 138 = .ok (.aload_n 0, 1) := by decide +kernel
theorem d_Txp_call_139 : decode b_Txp_call 139 = .ok (.getfield 50, 3) := by decide +kernel
theorem d_Txp_call_142 : decode b_Txp_call 142 = .ok (.iload 5, 2) := by decide +kernel
theorem d_Txp_call_144 : decode b_Txp_call 144 = .ok (.iadd, 1) := by decide +kernel
theorem d_Txp_call_145 : decode b_Txp_call 145 = .ok (.iload 5, 2) := by decide +kernel
theorem d_Txp_call_147 : decode b_Txp_call 147 = .ok (.iload_n 3, 1) := by decide +kernel
theorem d_Txp_call_148 : decode b_Txp_call 148 = .ok (.if_icmp .ge 10, 3) := by decide +kernel
theorem d_Txp_call_151 : decode b_Txp_call 151 = .ok (.aload_n 0, 1) := by decide +kernel
theorem d_Txp_call_152 : decode b_Txp_call 152 = .ok (.invokevirtual 119, 3) := by decide +kernel
theorem d_Txp_call_155 : decode b_Txp_call 155 = .ok (.goto 4, 3) := by decide +kernel
theorem d_Txp_call_158 : decode b_Txp_call 158 = .ok (.iconst 0, 1) := by decide +kernel
theorem d_Txp_call_159 : decode b_Txp_call 159 = .ok (.invokevirtual 98, 3) := by decide +kernel
theorem d_Txp_call_162 : decode b_Txp_call 162 = .ok (.iinc 5 (-1), 3) := by decide +kernel
theorem d_Txp_call_165 : decode b_Txp_call 165 = .ok (.goto (-33), 3) := by decide +kernel
theorem d_Txp_call_168 : decode b_Txp_call 168 = .ok (.aload_n 0, 1) := by decide +kernel
theorem d_Txp_call_169 : decode b_Txp_call 169 = .ok (.aload_n 0, 1) := by decide +kernel
theorem d_Txp_call_170 : decode b_Txp_call 170 = .ok (.getfield 25, 3) := by decide +kernel
theorem d_Txp_call_173 : decode b_Txp_call 173 = .ok (.iload_n 1, 1) := by decide +kernel
theorem d_Txp_call_174 : decode b_Txp_call 174 = .ok (.iconst 0, 1) := by decide +kernel
theorem d_Txp_call_175 : decode b_Txp_call 175 = .ok (.invokevirtual 171, 3) := by decide +kernel
theorem d_Txp_call_178 : decode b_Txp_call 178 = .ok (.putfield 41, 3) := by decide +kernel
theorem d_Txp_call_181 : decode b_Txp_call 181 = .ok (.return_, 1) := by decide +kernel
theorem q_Txp_call : px_y y_Txp_call 1 := by unfold px_y; decide +kernel
set_option maxHeartbeats 4000000 in
set_option maxRecDepth 100000 in
theorem c_Txp_call (l : Launch) (D : va_G) (cs : Nat → ClassId) (h : Nat) (r : Nat → Nat) (g : Nat → Nat → Option Nat) (hp : Nat) (f : Nat → Int32) (a : Nat → Nat → Int32) (rp : Nat → Nat) (of : Option Nat) (fp : Nat → Int32) (fn : Nat) (fd : Nat → Int32) (p0 : Int32)  (hinv0 : TxOk (f 4) (f 5) (f 8) (f 9) (f 17) (f 21) (a 2)) (g0 : (f 21).toInt = 0) (g1 : 0 ≤ p0.toInt) (g2 : p0.toInt ≤ 1000000) (g3 : fn ≤ 1000000) (hfd : RtOk fd) : MetV l y_Txp_call b_Txp_call 6 D cs 1 40 (0) (0) [.ref h, .int p0] [wd_Txp cs h r (fun k => if k = 3 then (some hp) else none) f a g, wd_Prg cs hp rp (fun k => if k = 2 then of else none) fp (fun _ _ => 0) (fun _ _ => none), nA cs of fn fd] (fun _ => True) (fun ps => ∃ (f' : Nat → Int32) (a' : Nat → Nat → Int32), (ps = [wd_Txp cs h r (fun k => if k = 3 then (some hp) else none) f' a' g, wd_Prg cs hp rp (fun k => if k = 2 then of else none) fp (fun _ _ => 0) (fun _ _ => none), nA cs of fn fd]) ∧ (TxOk (f' 4) (f' 5) (f' 8) (f' 9) (f' 17) (f' 21) (a' 2)) ∧ ((f' 9).toInt = (f 9).toInt) ∧ ((f' 17).toInt = (f 17).toInt) ∧ ((f' 21).toInt = 0) ∧ ((f' 15).toInt = (f 15).toInt) ∧ ((f' 20).toInt = (f 20).toInt)) := by
  refine px_enter (by decide) (Nat.le_of_ble_eq_true rfl) ?_
  intro p e s m below meth c A ls hAe S hr hlk hnm hA hT hX hw hl
  have hl : lv_has ls 6 [(0, .ref h), (1, .int p0)] := hl
  have lp0 := Int32.le_toInt p0
  have up0 := Int32.toInt_lt p0
  have cst0 : (0 : Int32).toInt = 0 := rfl
  have cst1 : (1 : Int32).toInt = 1 := rfl
  have cst2 : (2 : Int32).toInt = 2 := rfl
  have cst3 : (3 : Int32).toInt = 3 := rfl
  have cst4 : (4 : Int32).toInt = 4 := rfl
  obtain ⟨lk, ⟨i2, i3⟩, ⟨i4, i5⟩, ⟨i6, i7⟩, i8, ⟨i9, i11⟩, i10, hrt⟩ := hinv0
  have J132 : ∀ (n : Nat) (f_132 : Nat → Int32) (a_132 : Nat → Nat → Int32) (x132_3 x132_5 : Int32) (H : Heap) (locs : List Loc) (ls : Array Slot), (TxOk (f_132 4) (f_132 5) (f_132 8) (f_132 9) (f_132 17) (f_132 21) (a_132 2)) → ((f_132 9).toInt = (f 9).toInt) → ((f_132 17).toInt = (f 17).toInt) → ((f_132 21).toInt = 0) → ((f_132 15).toInt = (f 15).toInt) → ((f_132 20).toInt = (f 20).toInt) → x132_5.toInt+2147483649 < (n : Int) → pw D A s.heap H locs [wd_Txp cs h r (fun k => if k = 3 then (some hp) else none) f_132 a_132 g, wd_Prg cs hp rp (fun k => if k = 2 then of else none) fp (fun _ _ => 0) (fun _ _ => none), nA cs of fn fd] → lv_has ls 6 [(0, .ref h), (1, .int p0), (3, .int x132_3), (5, .int x132_5)] → W p l e { frames := 1, cells := 0, slots := 0, locals := 40 } s m [.ref h, .int p0].toArray below meth c H locs 0 0 (MQ below (va_Qv (fun ps => ∃ (f' : Nat → Int32) (a' : Nat → Nat → Int32), (ps = [wd_Txp cs h r (fun k => if k = 3 then (some hp) else none) f' a' g, wd_Prg cs hp rp (fun k => if k = 2 then of else none) fp (fun _ _ => 0) (fun _ _ => none), nA cs of fn fd]) ∧ (TxOk (f' 4) (f' 5) (f' 8) (f' 9) (f' 17) (f' 21) (a' 2)) ∧ ((f' 9).toInt = (f 9).toInt) ∧ ((f' 17).toInt = (f 17).toInt) ∧ ((f' 21).toInt = 0) ∧ ((f' 15).toInt = (f 15).toInt) ∧ ((f' 20).toInt = (f 20).toInt)) (pc_B D (va_A ([wd_Txp cs h r (fun k => if k = 3 then (some hp) else none) f a g, wd_Prg cs hp rp (fun k => if k = 2 then of else none) fp (fun _ _ => 0) (fun _ _ => none), nA cs of fn fd] : List va_W).flatten s.heap.size)) (va_A ([wd_Txp cs h r (fun k => if k = 3 then (some hp) else none) f a g, wd_Prg cs hp rp (fun k => if k = 2 then of else none) fp (fun _ _ => 0) (fun _ _ => none), nA cs of fn fd] : List va_W).flatten s.heap.size)) [.ref h, .int p0].toArray s 0 0 A) (F0 m 132 ls []) := by
    intro n
    induction n with
    | zero =>
      intro f_132 a_132 x132_3 x132_5 H locs ls hi132_0 k132_0 k132_1 k132_2 k132_3 k132_4 hm hw hl
      obtain ⟨lk, ⟨i2, i3⟩, ⟨i4, i5⟩, ⟨i6, i7⟩, i8, ⟨i9, i11⟩, i10, hrt⟩ := hi132_0
      have lx132_3 := Int32.le_toInt x132_3
      have ux132_3 := Int32.toInt_lt x132_3
      have lx132_5 := Int32.le_toInt x132_5
      have ux132_5 := Int32.toInt_lt x132_5
      exact absurd hm (by omega)
    | succ n ih =>
      intro f_132 a_132 x132_3 x132_5 H locs ls hi132_0 k132_0 k132_1 k132_2 k132_3 k132_4 hm hw hl
      obtain ⟨lk, ⟨i2, i3⟩, ⟨i4, i5⟩, ⟨i6, i7⟩, i8, ⟨i9, i11⟩, i10, hrt⟩ := hi132_0
      have lx132_3 := Int32.le_toInt x132_3
      have ux132_3 := Int32.toInt_lt x132_3
      have lx132_5 := Int32.le_toInt x132_5
      have ux132_5 := Int32.toInt_lt x132_5
      refine lv_iload S.x S.b d_Txp_call_132 (lv_at hl 3 rfl) ?_
      refine lv_if_lt (tgt := 168) S.x S.b d_Txp_call_134 (by decide) (fun c1 => ?_) (fun c1 => ?_)
      · have nc1 : x132_5.toInt < (0 : Int) := (i_lt (x := x132_5) (y := 0)).mp c1
        refine lv_aload_n S.x S.b d_Txp_call_168 rfl (lv_at hl 0 rfl) ?_
        refine lv_aload_n S.x S.b d_Txp_call_169 rfl (lv_at hl 0 rfl) ?_
        refine px_get S k_Txp hT hw 0 0 3 (v := .ref hp) rfl rfl rfl (by decide) m6_216 d_Txp_call_170 ?_
        refine lv_iload_n S.x S.b d_Txp_call_173 rfl (lv_at hl 1 rfl) ?_
        refine lv_iconst (v := 0) S.x S.b d_Txp_call_174 (by decide) ?_
        first | refine px_calli (pr := [wd_Txp cs h r (fun k => if k = 3 then (some hp) else none) f_132 a_132 g]) (px_runV (As := [.int p0, .int 0]) (rest := [.ref h]) S (c_Prg_aboutFunction l D cs hp rp of fp fn fd p0 0  (show fn ≤ 1000000 from g3) (show 0 ≤ p0.toInt from g1) (show p0.toInt ≤ 1000000 from g2) (show 0 ≤ (0 : Int) from by first | decide | omega) (show (0 : Int) ≤ 2 from by first | decide | omega) hfd _) hT (pr := [wd_Txp cs h r (fun k => if k = 3 then (some hp) else none) f_132 a_132 g]) (pcs := [wd_Prg cs hp rp (fun k => if k = 2 then of else none) fp (fun _ _ => 0) (fun _ _ => none), nA cs of fn fd]) hw px_X.tt (px_recv hT hw 1 0 rfl rfl rfl) m9_27 m9_24 m9_25 m9_26 m1_16 q_Prg_aboutFunction ⟨Nat.le_of_ble_eq_true rfl, Nat.le_of_ble_eq_true rfl⟩ hl.1 rfl (Nat.le_of_ble_eq_true rfl) d_Txp_call_175 ⟨Nat.le_of_ble_eq_true rfl, Nat.le_of_ble_eq_true rfl⟩) hw hA (fun v3 p2 H locs hp2 hw => ?_) | refine px_calli (pr := [wd_Txp cs h r (fun k => if k = 3 then (some hp) else none) f_132 a_132 g]) (px_runV (As := [.int p0, .int 0]) (rest := [.ref h]) S (c_Prg_aboutFunction l D cs hp rp of fp fn fd p0 0  (show fn ≤ 1000000 from by first | exact g3 | omega) (show 0 ≤ p0.toInt from by first | exact g1 | omega) (show p0.toInt ≤ 1000000 from by first | exact g2 | omega) (show 0 ≤ (0 : Int) from by first | decide | omega) (show (0 : Int) ≤ 2 from by first | decide | omega) hfd _) hT (pr := [wd_Txp cs h r (fun k => if k = 3 then (some hp) else none) f_132 a_132 g]) (pcs := [wd_Prg cs hp rp (fun k => if k = 2 then of else none) fp (fun _ _ => 0) (fun _ _ => none), nA cs of fn fd]) hw px_X.tt (px_recv hT hw 1 0 rfl rfl rfl) m9_27 m9_24 m9_25 m9_26 m1_16 q_Prg_aboutFunction ⟨Nat.le_of_ble_eq_true rfl, Nat.le_of_ble_eq_true rfl⟩ hl.1 rfl (Nat.le_of_ble_eq_true rfl) d_Txp_call_175 ⟨Nat.le_of_ble_eq_true rfl, Nat.le_of_ble_eq_true rfl⟩) hw hA (fun v3 p2 H locs hp2 hw => ?_)
        obtain ⟨rfl, e4⟩ := hp2
        have e4 : (0 : Int) = 0 → Lk v3 := e4
        have lv3 := Int32.le_toInt v3
        have uv3 := Int32.toInt_lt v3
        refine px_put S k_Txp hT hw 0 0 4 rfl rfl (by decide) m6_217 rfl rfl rfl (Nat.le_of_ble_eq_true rfl) d_Txp_call_178 (w' := wd_Txp cs h r (fun k => if k = 3 then (some hp) else none) (upd f_132 4 v3) a_132 g) (ps' := [wd_Txp cs h r (fun k => if k = 3 then (some hp) else none) (upd f_132 4 v3) a_132 g, wd_Prg cs hp rp (fun k => if k = 2 then of else none) fp (fun _ _ => 0) (fun _ _ => none), nA cs of fn fd]) rfl rfl (fun H locs hw => ?_)
        first | exact px_vret S hr hlk hAe hw (Nat.le_of_ble_eq_true rfl) (Nat.le_of_ble_eq_true rfl) (⟨(upd f_132 4 v3), a_132, rfl, (show TxOk v3 (f_132 5) (f_132 8) (f_132 9) (f_132 17) (f_132 21) (a_132 2) from ⟨e4 rfl, ⟨i2, i3⟩, ⟨i4, i5⟩, ⟨i6, i7⟩, i8, ⟨i9, i11⟩, i10, hrt⟩), (show (f_132 9).toInt = (f 9).toInt from k132_0), (show (f_132 17).toInt = (f 17).toInt from k132_1), (show (f_132 21).toInt = 0 from k132_2), (show (f_132 15).toInt = (f 15).toInt from k132_3), (show (f_132 20).toInt = (f 20).toInt from k132_4)⟩) d_Txp_call_181 | exact px_vret S hr hlk hAe hw (Nat.le_of_ble_eq_true rfl) (Nat.le_of_ble_eq_true rfl) (⟨(upd f_132 4 v3), a_132, rfl, (show TxOk v3 (f_132 5) (f_132 8) (f_132 9) (f_132 17) (f_132 21) (a_132 2) from ⟨e4 rfl, ⟨by first | exact i2 | omega, by first | exact i3 | omega⟩, ⟨by first | exact i4 | omega, by first | exact i5 | omega⟩, ⟨by first | exact i6 | omega, by first | exact i7 | omega⟩, by first | exact i8 | omega, ⟨by first | exact i9 | omega, by first | exact i11 | omega⟩, by first | exact i10 | omega, hrt⟩), (show (f_132 9).toInt = (f 9).toInt from by first | exact k132_0 | omega), (show (f_132 17).toInt = (f 17).toInt from by first | exact k132_1 | omega), (show (f_132 21).toInt = 0 from by first | exact k132_2 | omega), (show (f_132 15).toInt = (f 15).toInt from by first | exact k132_3 | omega), (show (f_132 20).toInt = (f 20).toInt from by first | exact k132_4 | omega)⟩) d_Txp_call_181
      · have nc1 : ¬ x132_5.toInt < (0 : Int) := mt (i_lt (x := x132_5) (y := 0)).mpr c1
        refine lv_aload_n S.x S.b d_Txp_call_137 rfl (lv_at hl 0 rfl) ?_
        refine lv_aload_n S.x S.b d_Txp_call_138 rfl (lv_at hl 0 rfl) ?_
        refine px_get S k_Txp hT hw 0 0 6 (v := .int (f_132 6)) rfl rfl rfl (by decide) m6_219 d_Txp_call_139 ?_
        refine lv_iload S.x S.b d_Txp_call_142 (lv_at hl 3 rfl) ?_
        refine lv_iadd S.x S.b d_Txp_call_144 ?_
        have lr5 := Int32.le_toInt (f_132 6)
        have ur5 := Int32.toInt_lt (f_132 6)
        refine lv_topi (fun z6 ez6 => ?_)
        have lz6 := Int32.le_toInt z6
        have uz6 := Int32.toInt_lt z6
        refine lv_iload S.x S.b d_Txp_call_145 (lv_at hl 3 rfl) ?_
        refine lv_iload_n S.x S.b d_Txp_call_147 rfl (lv_at hl 2 rfl) ?_
        refine lv_icmp_ge (tgt := 158) S.x S.b d_Txp_call_148 (by decide) (fun c7 => ?_) (fun c7 => ?_)
        · have nc7 : x132_3.toInt ≤ x132_5.toInt := (i_le (x := x132_3) (y := x132_5)).mp c7
          refine lv_iconst (v := 0) S.x S.b d_Txp_call_158 (by decide) ?_
          have hw : pw D A s.heap _ _ [wd_Prg cs hp rp (fun k => if k = 2 then of else none) fp (fun _ _ => 0) (fun _ _ => none), nA cs of fn fd, wd_Txp cs h r (fun k => if k = 3 then (some hp) else none) f_132 a_132 g] := hw.sub [1, 2, 0] rfl rfl
          first | refine px_callv (pr := [wd_Prg cs hp rp (fun k => if k = 2 then of else none) fp (fun _ _ => 0) (fun _ _ => none), nA cs of fn fd]) (px_runV (As := [.int z6, .int 0]) (rest := []) S (c_Txp_poke l D cs h r g hp f_132 a_132 z6 0  (show TxOk (f_132 4) (f_132 5) (f_132 8) (f_132 9) (f_132 17) (f_132 21) (a_132 2) from ⟨lk, ⟨i2, i3⟩, ⟨i4, i5⟩, ⟨i6, i7⟩, i8, ⟨i9, i11⟩, i10, hrt⟩) _) hT (pr := [wd_Prg cs hp rp (fun k => if k = 2 then of else none) fp (fun _ _ => 0) (fun _ _ => none), nA cs of fn fd]) (pcs := [wd_Txp cs h r (fun k => if k = 3 then (some hp) else none) f_132 a_132 g]) hw px_X.tt (px_recv hT hw 2 0 rfl rfl rfl) m8_129 m8_126 m8_128 ms_5_13 m1_35 q_Txp_poke ⟨Nat.le_of_ble_eq_true rfl, Nat.le_of_ble_eq_true rfl⟩ hl.1 rfl (Nat.le_of_ble_eq_true rfl) d_Txp_call_159 ⟨Nat.le_of_ble_eq_true rfl, Nat.le_of_ble_eq_true rfl⟩) hw hA (fun p10 H locs hp10 hw => ?_) | refine px_callv (pr := [wd_Prg cs hp rp (fun k => if k = 2 then of else none) fp (fun _ _ => 0) (fun _ _ => none), nA cs of fn fd]) (px_runV (As := [.int z6, .int 0]) (rest := []) S (c_Txp_poke l D cs h r g hp f_132 a_132 z6 0  (show TxOk (f_132 4) (f_132 5) (f_132 8) (f_132 9) (f_132 17) (f_132 21) (a_132 2) from ⟨lk, ⟨by first | exact i2 | omega, by first | exact i3 | omega⟩, ⟨by first | exact i4 | omega, by first | exact i5 | omega⟩, ⟨by first | exact i6 | omega, by first | exact i7 | omega⟩, by first | exact i8 | omega, ⟨by first | exact i9 | omega, by first | exact i11 | omega⟩, by first | exact i10 | omega, hrt⟩) _) hT (pr := [wd_Prg cs hp rp (fun k => if k = 2 then of else none) fp (fun _ _ => 0) (fun _ _ => none), nA cs of fn fd]) (pcs := [wd_Txp cs h r (fun k => if k = 3 then (some hp) else none) f_132 a_132 g]) hw px_X.tt (px_recv hT hw 2 0 rfl rfl rfl) m8_129 m8_126 m8_128 ms_5_13 m1_35 q_Txp_poke ⟨Nat.le_of_ble_eq_true rfl, Nat.le_of_ble_eq_true rfl⟩ hl.1 rfl (Nat.le_of_ble_eq_true rfl) d_Txp_call_159 ⟨Nat.le_of_ble_eq_true rfl, Nat.le_of_ble_eq_true rfl⟩) hw hA (fun p10 H locs hp10 hw => ?_)
          obtain ⟨f8, a9, rfl, h18, e12, e13, e14, e15, e16, e17⟩ := hp10
          obtain ⟨lk, ⟨i2, i3⟩, ⟨i4, i5⟩, ⟨i6, i7⟩, i8, ⟨i9, i11⟩, i10, hrt⟩ := h18
          have e12 : (f8 9).toInt = (f_132 9).toInt := e12
          have e13 : (f8 17).toInt = (f_132 17).toInt := e13
          have e14 : (f8 21).toInt = (f_132 21).toInt := e14
          have e15 : (f8 15).toInt = (f_132 15).toInt := e15
          have e16 : (f8 20).toInt = (f_132 20).toInt := e16
          have e17 : (f8 4).toInt = (f_132 4).toInt := e17
          obtain ⟨z19, ez19⟩ : ∃ y : Int32, y = x132_5 + (-1) := ⟨_, rfl⟩
          have tz19 : z19.toInt = (x132_5.toInt + (-1) + 2147483648) % 4294967296 - 2147483648 := by rw [ez19]; exact i_add x132_5 (-1)
          have lz19 := Int32.le_toInt z19
          have uz19 := Int32.toInt_lt z19
          try replace tz19 : z19.toInt = x132_5.toInt + (-1) := by omega
          refine lv_iinc (v := z19) (lv' := [(5, .int z19), (0, .ref h), (1, .int p0), (3, .int x132_3)]) S.x S.b d_Txp_call_162 hl (k := 3) rfl (by rw [ez19]; rfl) (by decide) rfl (fun ls hl => ?_)
          refine lv_goto (tgt := 132) S.x S.b d_Txp_call_165 (by decide) ?_
          have hw : pw D A s.heap _ _ [wd_Txp cs h r (fun k => if k = 3 then (some hp) else none) f8 a9 g, wd_Prg cs hp rp (fun k => if k = 2 then of else none) fp (fun _ _ => 0) (fun _ _ => none), nA cs of fn fd] := hw.sub [2, 0, 1] rfl rfl
          first | exact ih f8 a9 x132_3 z19 _ _ ls (show TxOk (f8 4) (f8 5) (f8 8) (f8 9) (f8 17) (f8 21) (a9 2) from ⟨lk, ⟨i2, i3⟩, ⟨i4, i5⟩, ⟨i6, i7⟩, i8, ⟨i9, i11⟩, i10, hrt⟩) (show (f8 9).toInt = (f 9).toInt from (oz_1687f4cc65 k132_0 e12)) (show (f8 17).toInt = (f 17).toInt from (oz_1687f4cc65 k132_1 e13)) (show (f8 21).toInt = 0 from (oz_4193540c58 e14 k132_2)) (show (f8 15).toInt = (f 15).toInt from (oz_1687f4cc65 k132_3 e15)) (show (f8 20).toInt = (f 20).toInt from (oz_1687f4cc65 k132_4 e16)) (show z19.toInt+2147483649 < (n : Int) from by first | with_reducible rfl | with_reducible assumption | omega) hw (lv_sub hl [1, 2, 3, 0] rfl) | exact ih f8 a9 x132_3 z19 _ _ ls (show TxOk (f8 4) (f8 5) (f8 8) (f8 9) (f8 17) (f8 21) (a9 2) from ⟨lk, ⟨by first | exact i2 | omega, by first | exact i3 | omega⟩, ⟨by first | exact i4 | omega, by first | exact i5 | omega⟩, ⟨by first | exact i6 | omega, by first | exact i7 | omega⟩, by first | exact i8 | omega, ⟨by first | exact i9 | omega, by first | exact i11 | omega⟩, by first | exact i10 | omega, hrt⟩) (show (f8 9).toInt = (f 9).toInt from by first | exact oz_1687f4cc65 k132_0 e12 | omega) (show (f8 17).toInt = (f 17).toInt from by first | exact oz_1687f4cc65 k132_1 e13 | omega) (show (f8 21).toInt = 0 from by first | exact oz_4193540c58 e14 k132_2 | omega) (show (f8 15).toInt = (f 15).toInt from by first | exact oz_1687f4cc65 k132_3 e15 | omega) (show (f8 20).toInt = (f 20).toInt from by first | exact oz_1687f4cc65 k132_4 e16 | omega) (show z19.toInt+2147483649 < (n : Int) from by first | with_reducible rfl | with_reducible assumption | omega) hw (lv_sub hl [1, 2, 3, 0] rfl)
        · have nc7 : ¬ x132_3.toInt ≤ x132_5.toInt := mt (i_le (x := x132_3) (y := x132_5)).mpr c7
          refine lv_aload_n S.x S.b d_Txp_call_151 rfl (lv_at hl 0 rfl) ?_
          have hw : pw D A s.heap _ _ [wd_Prg cs hp rp (fun k => if k = 2 then of else none) fp (fun _ _ => 0) (fun _ _ => none), nA cs of fn fd, wd_Txp cs h r (fun k => if k = 3 then (some hp) else none) f_132 a_132 g] := hw.sub [1, 2, 0] rfl rfl
          first | refine px_calli (pr := [wd_Prg cs hp rp (fun k => if k = 2 then of else none) fp (fun _ _ => 0) (fun _ _ => none), nA cs of fn fd]) (px_runV (As := []) (rest := [.int z6, .ref h]) S (c_Txp_pop l D cs h r g hp f_132 a_132   (show TxOk (f_132 4) (f_132 5) (f_132 8) (f_132 9) (f_132 17) (f_132 21) (a_132 2) from ⟨lk, ⟨i2, i3⟩, ⟨i4, i5⟩, ⟨i6, i7⟩, i8, ⟨i9, i11⟩, i10, hrt⟩) _) hT (pr := [wd_Prg cs hp rp (fun k => if k = 2 then of else none) fp (fun _ _ => 0) (fun _ _ => none), nA cs of fn fd]) (pcs := [wd_Txp cs h r (fun k => if k = 3 then (some hp) else none) f_132 a_132 g]) hw px_X.tt (px_recv hT hw 2 0 rfl rfl rfl) m9_15 m9_12 m9_14 ms_7_0 m1_35 q_Txp_pop ⟨Nat.le_of_ble_eq_true rfl, Nat.le_of_ble_eq_true rfl⟩ hl.1 rfl (Nat.le_of_ble_eq_true rfl) d_Txp_call_152 ⟨Nat.le_of_ble_eq_true rfl, Nat.le_of_ble_eq_true rfl⟩) hw hA (fun v23 p22 H locs hp22 hw => ?_) | refine px_calli (pr := [wd_Prg cs hp rp (fun k => if k = 2 then of else none) fp (fun _ _ => 0) (fun _ _ => none), nA cs of fn fd]) (px_runV (As := []) (rest := [.int z6, .ref h]) S (c_Txp_pop l D cs h r g hp f_132 a_132   (show TxOk (f_132 4) (f_132 5) (f_132 8) (f_132 9) (f_132 17) (f_132 21) (a_132 2) from ⟨lk, ⟨by first | exact i2 | omega, by first | exact i3 | omega⟩, ⟨by first | exact i4 | omega, by first | exact i5 | omega⟩, ⟨by first | exact i6 | omega, by first | exact i7 | omega⟩, by first | exact i8 | omega, ⟨by first | exact i9 | omega, by first | exact i11 | omega⟩, by first | exact i10 | omega, hrt⟩) _) hT (pr := [wd_Prg cs hp rp (fun k => if k = 2 then of else none) fp (fun _ _ => 0) (fun _ _ => none), nA cs of fn fd]) (pcs := [wd_Txp cs h r (fun k => if k = 3 then (some hp) else none) f_132 a_132 g]) hw px_X.tt (px_recv hT hw 2 0 rfl rfl rfl) m9_15 m9_12 m9_14 ms_7_0 m1_35 q_Txp_pop ⟨Nat.le_of_ble_eq_true rfl, Nat.le_of_ble_eq_true rfl⟩ hl.1 rfl (Nat.le_of_ble_eq_true rfl) d_Txp_call_152 ⟨Nat.le_of_ble_eq_true rfl, Nat.le_of_ble_eq_true rfl⟩) hw hA (fun v23 p22 H locs hp22 hw => ?_)
          obtain ⟨f20, a21, rfl, h30, e24, e25, e26, e27, e28, e29⟩ := hp22
          obtain ⟨lk, ⟨i2, i3⟩, ⟨i4, i5⟩, ⟨i6, i7⟩, i8, ⟨i9, i11⟩, i10, hrt⟩ := h30
          have e24 : (f20 9).toInt = (f_132 9).toInt := e24
          have e25 : (f20 17).toInt = (f_132 17).toInt := e25
          have e26 : (f20 21).toInt = (f_132 21).toInt := e26
          have e27 : (f20 15).toInt = (f_132 15).toInt := e27
          have e28 : (f20 20).toInt = (f_132 20).toInt := e28
          have e29 : (f20 4).toInt = (f_132 4).toInt := e29
          have lv23 := Int32.le_toInt v23
          have uv23 := Int32.toInt_lt v23
          refine lv_goto (tgt := 159) S.x S.b d_Txp_call_155 (by decide) ?_
          first | refine px_callv (pr := [wd_Prg cs hp rp (fun k => if k = 2 then of else none) fp (fun _ _ => 0) (fun _ _ => none), nA cs of fn fd]) (px_runV (As := [.int z6, .int v23]) (rest := []) S (c_Txp_poke l D cs h r g hp f20 a21 z6 v23  (show TxOk (f20 4) (f20 5) (f20 8) (f20 9) (f20 17) (f20 21) (a21 2) from ⟨lk, ⟨i2, i3⟩, ⟨i4, i5⟩, ⟨i6, i7⟩, i8, ⟨i9, i11⟩, i10, hrt⟩) _) hT (pr := [wd_Prg cs hp rp (fun k => if k = 2 then of else none) fp (fun _ _ => 0) (fun _ _ => none), nA cs of fn fd]) (pcs := [wd_Txp cs h r (fun k => if k = 3 then (some hp) else none) f20 a21 g]) hw px_X.tt (px_recv hT hw 2 0 rfl rfl rfl) m8_129 m8_126 m8_128 ms_5_13 m1_35 q_Txp_poke ⟨Nat.le_of_ble_eq_true rfl, Nat.le_of_ble_eq_true rfl⟩ hl.1 rfl (Nat.le_of_ble_eq_true rfl) d_Txp_call_159 ⟨Nat.le_of_ble_eq_true rfl, Nat.le_of_ble_eq_true rfl⟩) hw hA (fun p33 H locs hp33 hw => ?_) | refine px_callv (pr := [wd_Prg cs hp rp (fun k => if k = 2 then of else none) fp (fun _ _ => 0) (fun _ _ => none), nA cs of fn fd]) (px_runV (As := [.int z6, .int v23]) (rest := []) S (c_Txp_poke l D cs h r g hp f20 a21 z6 v23  (show TxOk (f20 4) (f20 5) (f20 8) (f20 9) (f20 17) (f20 21) (a21 2) from ⟨lk, ⟨by first | exact i2 | omega, by first | exact i3 | omega⟩, ⟨by first | exact i4 | omega, by first | exact i5 | omega⟩, ⟨by first | exact i6 | omega, by first | exact i7 | omega⟩, by first | exact i8 | omega, ⟨by first | exact i9 | omega, by first | exact i11 | omega⟩, by first | exact i10 | omega, hrt⟩) _) hT (pr := [wd_Prg cs hp rp (fun k => if k = 2 then of else none) fp (fun _ _ => 0) (fun _ _ => none), nA cs of fn fd]) (pcs := [wd_Txp cs h r (fun k => if k = 3 then (some hp) else none) f20 a21 g]) hw px_X.tt (px_recv hT hw 2 0 rfl rfl rfl) m8_129 m8_126 m8_128 ms_5_13 m1_35 q_Txp_poke ⟨Nat.le_of_ble_eq_true rfl, Nat.le_of_ble_eq_true rfl⟩ hl.1 rfl (Nat.le_of_ble_eq_true rfl) d_Txp_call_159 ⟨Nat.le_of_ble_eq_true rfl, Nat.le_of_ble_eq_true rfl⟩) hw hA (fun p33 H locs hp33 hw => ?_)
          obtain ⟨f31, a32, rfl, h41, e35, e36, e37, e38, e39, e40⟩ := hp33
          obtain ⟨lk, ⟨i2, i3⟩, ⟨i4, i5⟩, ⟨i6, i7⟩, i8, ⟨i9, i11⟩, i10, hrt⟩ := h41
          have e35 : (f31 9).toInt = (f20 9).toInt := e35
          have e36 : (f31 17).toInt = (f20 17).toInt := e36
          have e37 : (f31 21).toInt = (f20 21).toInt := e37
          have e38 : (f31 15).toInt = (f20 15).toInt := e38
          have e39 : (f31 20).toInt = (f20 20).toInt := e39
          have e40 : (f31 4).toInt = (f20 4).toInt := e40
          obtain ⟨z42, ez42⟩ : ∃ y : Int32, y = x132_5 + (-1) := ⟨_, rfl⟩
          have tz42 : z42.toInt = (x132_5.toInt + (-1) + 2147483648) % 4294967296 - 2147483648 := by rw [ez42]; exact i_add x132_5 (-1)
          have lz42 := Int32.le_toInt z42
          have uz42 := Int32.toInt_lt z42
          try replace tz42 : z42.toInt = x132_5.toInt + (-1) := by omega
          refine lv_iinc (v := z42) (lv' := [(5, .int z42), (0, .ref h), (1, .int p0), (3, .int x132_3)]) S.x S.b d_Txp_call_162 hl (k := 3) rfl (by rw [ez42]; rfl) (by decide) rfl (fun ls hl => ?_)
          refine lv_goto (tgt := 132) S.x S.b d_Txp_call_165 (by decide) ?_
          have hw : pw D A s.heap _ _ [wd_Txp cs h r (fun k => if k = 3 then (some hp) else none) f31 a32 g, wd_Prg cs hp rp (fun k => if k = 2 then of else none) fp (fun _ _ => 0) (fun _ _ => none), nA cs of fn fd] := hw.sub [2, 0, 1] rfl rfl
          first | exact ih f31 a32 x132_3 z42 _ _ ls (show TxOk (f31 4) (f31 5) (f31 8) (f31 9) (f31 17) (f31 21) (a32 2) from ⟨lk, ⟨i2, i3⟩, ⟨i4, i5⟩, ⟨i6, i7⟩, i8, ⟨i9, i11⟩, i10, hrt⟩) (show (f31 9).toInt = (f 9).toInt from (oz_e13fc83238 k132_0 e35 e24)) (show (f31 17).toInt = (f 17).toInt from (oz_e13fc83238 k132_1 e36 e25)) (show (f31 21).toInt = 0 from (oz_06db467756 e37 e26 k132_2 i9)) (show (f31 15).toInt = (f 15).toInt from (oz_e13fc83238 k132_3 e38 e27)) (show (f31 20).toInt = (f 20).toInt from (oz_e13fc83238 k132_4 e39 e28)) (show z42.toInt+2147483649 < (n : Int) from by first | with_reducible rfl | with_reducible assumption | omega) hw (lv_sub hl [1, 2, 3, 0] rfl) | exact ih f31 a32 x132_3 z42 _ _ ls (show TxOk (f31 4) (f31 5) (f31 8) (f31 9) (f31 17) (f31 21) (a32 2) from ⟨lk, ⟨by first | exact i2 | omega, by first | exact i3 | omega⟩, ⟨by first | exact i4 | omega, by first | exact i5 | omega⟩, ⟨by first | exact i6 | omega, by first | exact i7 | omega⟩, by first | exact i8 | omega, ⟨by first | exact i9 | omega, by first | exact i11 | omega⟩, by first | exact i10 | omega, hrt⟩) (show (f31 9).toInt = (f 9).toInt from by first | exact oz_e13fc83238 k132_0 e35 e24 | omega) (show (f31 17).toInt = (f 17).toInt from by first | exact oz_e13fc83238 k132_1 e36 e25 | omega) (show (f31 21).toInt = 0 from by first | exact oz_06db467756 e37 e26 k132_2 i9 | omega) (show (f31 15).toInt = (f 15).toInt from by first | exact oz_e13fc83238 k132_3 e38 e27 | omega) (show (f31 20).toInt = (f 20).toInt from by first | exact oz_e13fc83238 k132_4 e39 e28 | omega) (show z42.toInt+2147483649 < (n : Int) from by first | with_reducible rfl | with_reducible assumption | omega) hw (lv_sub hl [1, 2, 3, 0] rfl)
  have J55 : ∀ (f_55 : Nat → Int32) (a_55 : Nat → Nat → Int32) (x55_2 x55_3 x55_4 : Int32) (H : Heap) (locs : List Loc) (ls : Array Slot), (TxOk (f_55 4) (f_55 5) (f_55 8) (f_55 9) (f_55 17) (f_55 21) (a_55 2)) → ((f_55 9).toInt = (f 9).toInt) → ((f_55 17).toInt = (f 17).toInt) → ((f_55 21).toInt = 0) → ((f_55 15).toInt = (f 15).toInt) → ((f_55 20).toInt = (f 20).toInt) → (x55_4.toInt = 3 * (f_55 8).toInt) → (x55_4.toInt ≤ 300) → pw D A s.heap H locs [wd_Txp cs h r (fun k => if k = 3 then (some hp) else none) f_55 a_55 g, wd_Prg cs hp rp (fun k => if k = 2 then of else none) fp (fun _ _ => 0) (fun _ _ => none), nA cs of fn fd] → lv_has ls 6 [(0, .ref h), (1, .int p0), (2, .int x55_2), (3, .int x55_3), (4, .int x55_4)] → W p l e { frames := 1, cells := 0, slots := 0, locals := 40 } s m [.ref h, .int p0].toArray below meth c H locs 0 0 (MQ below (va_Qv (fun ps => ∃ (f' : Nat → Int32) (a' : Nat → Nat → Int32), (ps = [wd_Txp cs h r (fun k => if k = 3 then (some hp) else none) f' a' g, wd_Prg cs hp rp (fun k => if k = 2 then of else none) fp (fun _ _ => 0) (fun _ _ => none), nA cs of fn fd]) ∧ (TxOk (f' 4) (f' 5) (f' 8) (f' 9) (f' 17) (f' 21) (a' 2)) ∧ ((f' 9).toInt = (f 9).toInt) ∧ ((f' 17).toInt = (f 17).toInt) ∧ ((f' 21).toInt = 0) ∧ ((f' 15).toInt = (f 15).toInt) ∧ ((f' 20).toInt = (f 20).toInt)) (pc_B D (va_A ([wd_Txp cs h r (fun k => if k = 3 then (some hp) else none) f a g, wd_Prg cs hp rp (fun k => if k = 2 then of else none) fp (fun _ _ => 0) (fun _ _ => none), nA cs of fn fd] : List va_W).flatten s.heap.size)) (va_A ([wd_Txp cs h r (fun k => if k = 3 then (some hp) else none) f a g, wd_Prg cs hp rp (fun k => if k = 2 then of else none) fp (fun _ _ => 0) (fun _ _ => none), nA cs of fn fd] : List va_W).flatten s.heap.size)) [.ref h, .int p0].toArray s 0 0 A) (F0 m 55 ls []) := by
    intro f_55 a_55 x55_2 x55_3 x55_4 H locs ls hi55_0 k55_0 k55_1 k55_2 k55_3 k55_4 k55_5 k55_6 hw hl
    obtain ⟨lk, ⟨i2, i3⟩, ⟨i4, i5⟩, ⟨i6, i7⟩, i8, ⟨i9, i11⟩, i10, hrt⟩ := hi55_0
    have lx55_2 := Int32.le_toInt x55_2
    have ux55_2 := Int32.toInt_lt x55_2
    have lx55_3 := Int32.le_toInt x55_3
    have ux55_3 := Int32.toInt_lt x55_3
    have lx55_4 := Int32.le_toInt x55_4
    have ux55_4 := Int32.toInt_lt x55_4
    refine lv_aload_n S.x S.b d_Txp_call_55 rfl (lv_at hl 0 rfl) ?_
    refine lv_dup S.x S.b d_Txp_call_56 rfl ?_
    refine px_get S k_Txp hT hw 0 0 10 (v := .int (f_55 10)) rfl rfl rfl (by decide) m6_223 d_Txp_call_57 ?_
    refine lv_iload_n S.x S.b d_Txp_call_60 rfl (lv_at hl 2 rfl) ?_
    refine lv_isub S.x S.b d_Txp_call_61 ?_
    have lr43 := Int32.le_toInt (f_55 10)
    have ur43 := Int32.toInt_lt (f_55 10)
    refine lv_topi (fun z44 ez44 => ?_)
    have lz44 := Int32.le_toInt z44
    have uz44 := Int32.toInt_lt z44
    refine px_put S k_Txp hT hw 0 0 10 rfl rfl (by decide) m6_223 rfl rfl rfl (Nat.le_of_ble_eq_true rfl) d_Txp_call_62 (w' := wd_Txp cs h r (fun k => if k = 3 then (some hp) else none) (upd f_55 10 z44) a_55 g) (ps' := [wd_Txp cs h r (fun k => if k = 3 then (some hp) else none) (upd f_55 10 z44) a_55 g, wd_Prg cs hp rp (fun k => if k = 2 then of else none) fp (fun _ _ => 0) (fun _ _ => none), nA cs of fn fd]) rfl rfl (fun H locs hw => ?_)
    refine lv_aload_n S.x S.b d_Txp_call_65 rfl (lv_at hl 0 rfl) ?_
    refine px_get S k_Txp hT hw 0 0 2 (v := .ref (r 2)) rfl rfl rfl (by decide) m6_215 d_Txp_call_66 ?_
    refine lv_iload S.x S.b d_Txp_call_69 (lv_at hl 4 rfl) ?_
    refine lv_aload_n S.x S.b d_Txp_call_71 rfl (lv_at hl 0 rfl) ?_
    refine px_get S k_Txp hT hw 0 0 4 (v := .int (f_55 4)) rfl rfl rfl (by decide) m6_217 d_Txp_call_72 ?_
    refine px_iast S hT hw 0 3 (n := 303) (f := (a_55 2)) (x := x55_4) (y := (f_55 4)) rfl (ga_Txp_2 _ _ _ _ _ _ _) (vp_in_iff.mpr (by constructor <;> omega)) d_Txp_call_75 (w' := wd_Txp cs h r (fun k => if k = 3 then (some hp) else none) (upd f_55 10 z44) (va_up a_55 2 (upd (a_55 2) x55_4.toNatClampNeg (f_55 4))) g) (ps' := [wd_Txp cs h r (fun k => if k = 3 then (some hp) else none) (upd f_55 10 z44) (va_up a_55 2 (upd (a_55 2) x55_4.toNatClampNeg (f_55 4))) g, wd_Prg cs hp rp (fun k => if k = 2 then of else none) fp (fun _ _ => 0) (fun _ _ => none), nA cs of fn fd]) (sa_Txp_2 _ _ _ _ _ _ _ _) rfl (fun H locs hw => ?_)
    have hrt := rt_up (rt := (a_55 2)) (x := x55_4) (z := (f_55 4)) hrt lk
    refine lv_aload_n S.x S.b d_Txp_call_76 rfl (lv_at hl 0 rfl) ?_
    refine px_get S k_Txp hT hw 0 0 2 (v := .ref (r 2)) rfl rfl rfl (by decide) m6_215 d_Txp_call_77 ?_
    refine lv_iload S.x S.b d_Txp_call_80 (lv_at hl 4 rfl) ?_
    refine lv_iconst (v := 1) S.x S.b d_Txp_call_82 (by decide) ?_
    refine lv_iadd S.x S.b d_Txp_call_83 ?_
    refine lv_topi (fun z45 ez45 => ?_)
    have tz45 : z45.toInt = (x55_4.toInt + (1 : Int) + 2147483648) % 4294967296 - 2147483648 := by rw [ez45]; exact i_add x55_4 1
    have lz45 := Int32.le_toInt z45
    have uz45 := Int32.toInt_lt z45
    try replace tz45 : z45.toInt = x55_4.toInt + (1 : Int) := by omega
    refine lv_aload_n S.x S.b d_Txp_call_84 rfl (lv_at hl 0 rfl) ?_
    refine px_get S k_Txp hT hw 0 0 6 (v := .int (f_55 6)) rfl rfl rfl (by decide) m6_219 d_Txp_call_85 ?_
    refine px_iast S hT hw 0 3 (n := 303) (f := ((va_up a_55 2 (upd (a_55 2) x55_4.toNatClampNeg (f_55 4))) 2)) (x := z45) (y := (f_55 6)) rfl (ga_Txp_2 _ _ _ _ _ _ _) (vp_in_iff.mpr (by constructor <;> omega)) d_Txp_call_88 (w' := wd_Txp cs h r (fun k => if k = 3 then (some hp) else none) (upd f_55 10 z44) (va_up (va_up a_55 2 (upd (a_55 2) x55_4.toNatClampNeg (f_55 4))) 2 (upd ((va_up a_55 2 (upd (a_55 2) x55_4.toNatClampNeg (f_55 4))) 2) z45.toNatClampNeg (f_55 6))) g) (ps' := [wd_Txp cs h r (fun k => if k = 3 then (some hp) else none) (upd f_55 10 z44) (va_up (va_up a_55 2 (upd (a_55 2) x55_4.toNatClampNeg (f_55 4))) 2 (upd ((va_up a_55 2 (upd (a_55 2) x55_4.toNatClampNeg (f_55 4))) 2) z45.toNatClampNeg (f_55 6))) g, wd_Prg cs hp rp (fun k => if k = 2 then of else none) fp (fun _ _ => 0) (fun _ _ => none), nA cs of fn fd]) (sa_Txp_2 _ _ _ _ _ _ _ _) rfl (fun H locs hw => ?_)
    have hrt := rt_un (rt := ((va_up a_55 2 (upd (a_55 2) x55_4.toNatClampNeg (f_55 4))) 2)) (x := z45) (z := (f_55 6)) (by rw [va_up_s]; exact hrt) (by omega) (by omega)
    refine lv_aload_n S.x S.b d_Txp_call_89 rfl (lv_at hl 0 rfl) ?_
    refine px_get S k_Txp hT hw 0 0 2 (v := .ref (r 2)) rfl rfl rfl (by decide) m6_215 d_Txp_call_90 ?_
    refine lv_iload S.x S.b d_Txp_call_93 (lv_at hl 4 rfl) ?_
    refine lv_iconst (v := 2) S.x S.b d_Txp_call_95 (by decide) ?_
    refine lv_iadd S.x S.b d_Txp_call_96 ?_
    refine lv_topi (fun z46 ez46 => ?_)
    have tz46 : z46.toInt = (x55_4.toInt + (2 : Int) + 2147483648) % 4294967296 - 2147483648 := by rw [ez46]; exact i_add x55_4 2
    have lz46 := Int32.le_toInt z46
    have uz46 := Int32.toInt_lt z46
    try replace tz46 : z46.toInt = x55_4.toInt + (2 : Int) := by omega
    refine lv_iload_n S.x S.b d_Txp_call_97 rfl (lv_at hl 2 rfl) ?_
    refine px_iast S hT hw 0 3 (n := 303) (f := ((va_up (va_up a_55 2 (upd (a_55 2) x55_4.toNatClampNeg (f_55 4))) 2 (upd ((va_up a_55 2 (upd (a_55 2) x55_4.toNatClampNeg (f_55 4))) 2) z45.toNatClampNeg (f_55 6))) 2)) (x := z46) (y := x55_2) rfl (ga_Txp_2 _ _ _ _ _ _ _) (vp_in_iff.mpr (by constructor <;> omega)) d_Txp_call_98 (w' := wd_Txp cs h r (fun k => if k = 3 then (some hp) else none) (upd f_55 10 z44) (va_up (va_up (va_up a_55 2 (upd (a_55 2) x55_4.toNatClampNeg (f_55 4))) 2 (upd ((va_up a_55 2 (upd (a_55 2) x55_4.toNatClampNeg (f_55 4))) 2) z45.toNatClampNeg (f_55 6))) 2 (upd ((va_up (va_up a_55 2 (upd (a_55 2) x55_4.toNatClampNeg (f_55 4))) 2 (upd ((va_up a_55 2 (upd (a_55 2) x55_4.toNatClampNeg (f_55 4))) 2) z45.toNatClampNeg (f_55 6))) 2) z46.toNatClampNeg x55_2)) g) (ps' := [wd_Txp cs h r (fun k => if k = 3 then (some hp) else none) (upd f_55 10 z44) (va_up (va_up (va_up a_55 2 (upd (a_55 2) x55_4.toNatClampNeg (f_55 4))) 2 (upd ((va_up a_55 2 (upd (a_55 2) x55_4.toNatClampNeg (f_55 4))) 2) z45.toNatClampNeg (f_55 6))) 2 (upd ((va_up (va_up a_55 2 (upd (a_55 2) x55_4.toNatClampNeg (f_55 4))) 2 (upd ((va_up a_55 2 (upd (a_55 2) x55_4.toNatClampNeg (f_55 4))) 2) z45.toNatClampNeg (f_55 6))) 2) z46.toNatClampNeg x55_2)) g, wd_Prg cs hp rp (fun k => if k = 2 then of else none) fp (fun _ _ => 0) (fun _ _ => none), nA cs of fn fd]) (sa_Txp_2 _ _ _ _ _ _ _ _) rfl (fun H locs hw => ?_)
    have hrt := rt_un (rt := ((va_up (va_up a_55 2 (upd (a_55 2) x55_4.toNatClampNeg (f_55 4))) 2 (upd ((va_up a_55 2 (upd (a_55 2) x55_4.toNatClampNeg (f_55 4))) 2) z45.toNatClampNeg (f_55 6))) 2)) (x := z46) (z := x55_2) (by rw [va_up_s]; exact hrt) (by omega) (by omega)
    refine lv_aload_n S.x S.b d_Txp_call_99 rfl (lv_at hl 0 rfl) ?_
    refine lv_dup S.x S.b d_Txp_call_100 rfl ?_
    refine px_get S k_Txp hT hw 0 0 8 (v := .int (f_55 8)) rfl rfl rfl (by decide) m6_221 d_Txp_call_101 ?_
    refine lv_iconst (v := 1) S.x S.b d_Txp_call_104 (by decide) ?_
    refine lv_iadd S.x S.b d_Txp_call_105 ?_
    have lr47 := Int32.le_toInt (f_55 8)
    have ur47 := Int32.toInt_lt (f_55 8)
    refine lv_topi (fun z48 ez48 => ?_)
    have tz48 : z48.toInt = ((f_55 8).toInt + (1 : Int) + 2147483648) % 4294967296 - 2147483648 := by rw [ez48]; exact i_add (f_55 8) 1
    have lz48 := Int32.le_toInt z48
    have uz48 := Int32.toInt_lt z48
    try replace tz48 : z48.toInt = (f_55 8).toInt + (1 : Int) := by omega
    refine px_put S k_Txp hT hw 0 0 8 rfl rfl (by decide) m6_221 rfl rfl rfl (Nat.le_of_ble_eq_true rfl) d_Txp_call_106 (w' := wd_Txp cs h r (fun k => if k = 3 then (some hp) else none) (upd (upd f_55 8 z48) 10 z44) (va_up (va_up (va_up a_55 2 (upd (a_55 2) x55_4.toNatClampNeg (f_55 4))) 2 (upd ((va_up a_55 2 (upd (a_55 2) x55_4.toNatClampNeg (f_55 4))) 2) z45.toNatClampNeg (f_55 6))) 2 (upd ((va_up (va_up a_55 2 (upd (a_55 2) x55_4.toNatClampNeg (f_55 4))) 2 (upd ((va_up a_55 2 (upd (a_55 2) x55_4.toNatClampNeg (f_55 4))) 2) z45.toNatClampNeg (f_55 6))) 2) z46.toNatClampNeg x55_2)) g) (ps' := [wd_Txp cs h r (fun k => if k = 3 then (some hp) else none) (upd (upd f_55 8 z48) 10 z44) (va_up (va_up (va_up a_55 2 (upd (a_55 2) x55_4.toNatClampNeg (f_55 4))) 2 (upd ((va_up a_55 2 (upd (a_55 2) x55_4.toNatClampNeg (f_55 4))) 2) z45.toNatClampNeg (f_55 6))) 2 (upd ((va_up (va_up a_55 2 (upd (a_55 2) x55_4.toNatClampNeg (f_55 4))) 2 (upd ((va_up a_55 2 (upd (a_55 2) x55_4.toNatClampNeg (f_55 4))) 2) z45.toNatClampNeg (f_55 6))) 2) z46.toNatClampNeg x55_2)) g, wd_Prg cs hp rp (fun k => if k = 2 then of else none) fp (fun _ _ => 0) (fun _ _ => none), nA cs of fn fd]) rfl rfl (fun H locs hw => ?_)
    refine lv_aload_n S.x S.b d_Txp_call_109 rfl (lv_at hl 0 rfl) ?_
    refine lv_aload_n S.x S.b d_Txp_call_110 rfl (lv_at hl 0 rfl) ?_
    refine px_get S k_Txp hT hw 0 0 7 (v := .int (f_55 7)) rfl rfl rfl (by decide) m6_220 d_Txp_call_111 ?_
    refine px_put S k_Txp hT hw 0 0 6 rfl rfl (by decide) m6_219 rfl rfl rfl (Nat.le_of_ble_eq_true rfl) d_Txp_call_114 (w' := wd_Txp cs h r (fun k => if k = 3 then (some hp) else none) (upd (upd (upd f_55 6 (f_55 7)) 8 z48) 10 z44) (va_up (va_up (va_up a_55 2 (upd (a_55 2) x55_4.toNatClampNeg (f_55 4))) 2 (upd ((va_up a_55 2 (upd (a_55 2) x55_4.toNatClampNeg (f_55 4))) 2) z45.toNatClampNeg (f_55 6))) 2 (upd ((va_up (va_up a_55 2 (upd (a_55 2) x55_4.toNatClampNeg (f_55 4))) 2 (upd ((va_up a_55 2 (upd (a_55 2) x55_4.toNatClampNeg (f_55 4))) 2) z45.toNatClampNeg (f_55 6))) 2) z46.toNatClampNeg x55_2)) g) (ps' := [wd_Txp cs h r (fun k => if k = 3 then (some hp) else none) (upd (upd (upd f_55 6 (f_55 7)) 8 z48) 10 z44) (va_up (va_up (va_up a_55 2 (upd (a_55 2) x55_4.toNatClampNeg (f_55 4))) 2 (upd ((va_up a_55 2 (upd (a_55 2) x55_4.toNatClampNeg (f_55 4))) 2) z45.toNatClampNeg (f_55 6))) 2 (upd ((va_up (va_up a_55 2 (upd (a_55 2) x55_4.toNatClampNeg (f_55 4))) 2 (upd ((va_up a_55 2 (upd (a_55 2) x55_4.toNatClampNeg (f_55 4))) 2) z45.toNatClampNeg (f_55 6))) 2) z46.toNatClampNeg x55_2)) g, wd_Prg cs hp rp (fun k => if k = 2 then of else none) fp (fun _ _ => 0) (fun _ _ => none), nA cs of fn fd]) rfl rfl (fun H locs hw => ?_)
    refine lv_aload_n S.x S.b d_Txp_call_117 rfl (lv_at hl 0 rfl) ?_
    refine lv_dup S.x S.b d_Txp_call_118 rfl ?_
    refine px_get S k_Txp hT hw 0 0 7 (v := .int (f_55 7)) rfl rfl rfl (by decide) m6_220 d_Txp_call_119 ?_
    refine lv_iload_n S.x S.b d_Txp_call_122 rfl (lv_at hl 2 rfl) ?_
    refine lv_iadd S.x S.b d_Txp_call_123 ?_
    have lr49 := Int32.le_toInt (f_55 7)
    have ur49 := Int32.toInt_lt (f_55 7)
    refine lv_topi (fun z50 ez50 => ?_)
    have lz50 := Int32.le_toInt z50
    have uz50 := Int32.toInt_lt z50
    refine px_put S k_Txp hT hw 0 0 7 rfl rfl (by decide) m6_220 rfl rfl rfl (Nat.le_of_ble_eq_true rfl) d_Txp_call_124 (w' := wd_Txp cs h r (fun k => if k = 3 then (some hp) else none) (upd (upd (upd (upd f_55 6 (f_55 7)) 7 z50) 8 z48) 10 z44) (va_up (va_up (va_up a_55 2 (upd (a_55 2) x55_4.toNatClampNeg (f_55 4))) 2 (upd ((va_up a_55 2 (upd (a_55 2) x55_4.toNatClampNeg (f_55 4))) 2) z45.toNatClampNeg (f_55 6))) 2 (upd ((va_up (va_up a_55 2 (upd (a_55 2) x55_4.toNatClampNeg (f_55 4))) 2 (upd ((va_up a_55 2 (upd (a_55 2) x55_4.toNatClampNeg (f_55 4))) 2) z45.toNatClampNeg (f_55 6))) 2) z46.toNatClampNeg x55_2)) g) (ps' := [wd_Txp cs h r (fun k => if k = 3 then (some hp) else none) (upd (upd (upd (upd f_55 6 (f_55 7)) 7 z50) 8 z48) 10 z44) (va_up (va_up (va_up a_55 2 (upd (a_55 2) x55_4.toNatClampNeg (f_55 4))) 2 (upd ((va_up a_55 2 (upd (a_55 2) x55_4.toNatClampNeg (f_55 4))) 2) z45.toNatClampNeg (f_55 6))) 2 (upd ((va_up (va_up a_55 2 (upd (a_55 2) x55_4.toNatClampNeg (f_55 4))) 2 (upd ((va_up a_55 2 (upd (a_55 2) x55_4.toNatClampNeg (f_55 4))) 2) z45.toNatClampNeg (f_55 6))) 2) z46.toNatClampNeg x55_2)) g, wd_Prg cs hp rp (fun k => if k = 2 then of else none) fp (fun _ _ => 0) (fun _ _ => none), nA cs of fn fd]) rfl rfl (fun H locs hw => ?_)
    refine lv_iload_n S.x S.b d_Txp_call_127 rfl (lv_at hl 2 rfl) ?_
    refine lv_iconst (v := 1) S.x S.b d_Txp_call_128 (by decide) ?_
    refine lv_isub S.x S.b d_Txp_call_129 ?_
    refine lv_topi (fun z51 ez51 => ?_)
    have lz51 := Int32.le_toInt z51
    have uz51 := Int32.toInt_lt z51
    refine lv_istore (lv' := [(5, .int z51), (0, .ref h), (1, .int p0), (2, .int x55_2), (3, .int x55_3), (4, .int x55_4)]) S.x S.b d_Txp_call_130 hl (by decide) rfl (fun ls hl => ?_)
    first | exact J132 ((z51.toInt+2147483649).toNat + 1) (upd (upd (upd (upd f_55 6 (f_55 7)) 7 z50) 8 z48) 10 z44) (va_up (va_up (va_up a_55 2 (upd (a_55 2) x55_4.toNatClampNeg (f_55 4))) 2 (upd ((va_up a_55 2 (upd (a_55 2) x55_4.toNatClampNeg (f_55 4))) 2) z45.toNatClampNeg (f_55 6))) 2 (upd ((va_up (va_up a_55 2 (upd (a_55 2) x55_4.toNatClampNeg (f_55 4))) 2 (upd ((va_up a_55 2 (upd (a_55 2) x55_4.toNatClampNeg (f_55 4))) 2) z45.toNatClampNeg (f_55 6))) 2) z46.toNatClampNeg x55_2)) x55_3 z51 _ _ ls (show TxOk (f_55 4) (f_55 5) z48 (f_55 9) (f_55 17) (f_55 21) ((va_up (va_up (va_up a_55 2 (upd (a_55 2) x55_4.toNatClampNeg (f_55 4))) 2 (upd ((va_up a_55 2 (upd (a_55 2) x55_4.toNatClampNeg (f_55 4))) 2) z45.toNatClampNeg (f_55 6))) 2 (upd ((va_up (va_up a_55 2 (upd (a_55 2) x55_4.toNatClampNeg (f_55 4))) 2 (upd ((va_up a_55 2 (upd (a_55 2) x55_4.toNatClampNeg (f_55 4))) 2) z45.toNatClampNeg (f_55 6))) 2) z46.toNatClampNeg x55_2)) 2) from ⟨lk, ⟨i2, i3⟩, ⟨(oz_b3b25f0e49 tz48 i4), (oz_98a8357fde tz48 k55_5 k55_6)⟩, ⟨i6, i7⟩, i8, ⟨i9, i11⟩, i10, (by rw [va_up_s]; exact hrt)⟩) (show (f_55 9).toInt = (f 9).toInt from k55_0) (show (f_55 17).toInt = (f 17).toInt from k55_1) (show (f_55 21).toInt = 0 from k55_2) (show (f_55 15).toInt = (f 15).toInt from k55_3) (show (f_55 20).toInt = (f 20).toInt from k55_4) (show z51.toInt+2147483649 < ((((z51.toInt+2147483649).toNat + 1 : Nat) : Int) : Int) from oz_natlt) hw (lv_sub hl [1, 2, 4, 0] rfl) | exact J132 ((z51.toInt+2147483649).toNat + 1) (upd (upd (upd (upd f_55 6 (f_55 7)) 7 z50) 8 z48) 10 z44) (va_up (va_up (va_up a_55 2 (upd (a_55 2) x55_4.toNatClampNeg (f_55 4))) 2 (upd ((va_up a_55 2 (upd (a_55 2) x55_4.toNatClampNeg (f_55 4))) 2) z45.toNatClampNeg (f_55 6))) 2 (upd ((va_up (va_up a_55 2 (upd (a_55 2) x55_4.toNatClampNeg (f_55 4))) 2 (upd ((va_up a_55 2 (upd (a_55 2) x55_4.toNatClampNeg (f_55 4))) 2) z45.toNatClampNeg (f_55 6))) 2) z46.toNatClampNeg x55_2)) x55_3 z51 _ _ ls (show TxOk (f_55 4) (f_55 5) z48 (f_55 9) (f_55 17) (f_55 21) ((va_up (va_up (va_up a_55 2 (upd (a_55 2) x55_4.toNatClampNeg (f_55 4))) 2 (upd ((va_up a_55 2 (upd (a_55 2) x55_4.toNatClampNeg (f_55 4))) 2) z45.toNatClampNeg (f_55 6))) 2 (upd ((va_up (va_up a_55 2 (upd (a_55 2) x55_4.toNatClampNeg (f_55 4))) 2 (upd ((va_up a_55 2 (upd (a_55 2) x55_4.toNatClampNeg (f_55 4))) 2) z45.toNatClampNeg (f_55 6))) 2) z46.toNatClampNeg x55_2)) 2) from ⟨lk, ⟨by first | exact i2 | omega, by first | exact i3 | omega⟩, ⟨by first | exact oz_b3b25f0e49 tz48 i4 | omega, by first | exact oz_98a8357fde tz48 k55_5 k55_6 | omega⟩, ⟨by first | exact i6 | omega, by first | exact i7 | omega⟩, by first | exact i8 | omega, ⟨by first | exact i9 | omega, by first | exact i11 | omega⟩, by first | exact i10 | omega, (by rw [va_up_s]; exact hrt)⟩) (show (f_55 9).toInt = (f 9).toInt from by first | exact k55_0 | omega) (show (f_55 17).toInt = (f 17).toInt from by first | exact k55_1 | omega) (show (f_55 21).toInt = 0 from by first | exact k55_2 | omega) (show (f_55 15).toInt = (f 15).toInt from by first | exact k55_3 | omega) (show (f_55 20).toInt = (f 20).toInt from by first | exact k55_4 | omega) (show z51.toInt+2147483649 < ((((z51.toInt+2147483649).toNat + 1 : Nat) : Int) : Int) from by first | exact oz_natlt | omega) hw (lv_sub hl [1, 2, 4, 0] rfl)
  refine lv_aload_n S.x S.b d_Txp_call_0 rfl (lv_at hl 0 rfl) ?_
  refine px_get S k_Txp hT hw 0 0 3 (v := .ref hp) rfl rfl rfl (by decide) m6_216 d_Txp_call_1 ?_
  refine lv_iload_n S.x S.b d_Txp_call_4 rfl (lv_at hl 1 rfl) ?_
  refine lv_iconst (v := 1) S.x S.b d_Txp_call_5 (by decide) ?_
  first | refine px_calli (pr := [wd_Txp cs h r (fun k => if k = 3 then (some hp) else none) f a g]) (px_runV (As := [.int p0, .int 1]) (rest := []) S (c_Prg_aboutFunction l D cs hp rp of fp fn fd p0 1  (show fn ≤ 1000000 from g3) (show 0 ≤ p0.toInt from g1) (show p0.toInt ≤ 1000000 from g2) (show 0 ≤ (1 : Int) from by first | decide | omega) (show (1 : Int) ≤ 2 from by first | decide | omega) hfd _) hT (pr := [wd_Txp cs h r (fun k => if k = 3 then (some hp) else none) f a g]) (pcs := [wd_Prg cs hp rp (fun k => if k = 2 then of else none) fp (fun _ _ => 0) (fun _ _ => none), nA cs of fn fd]) hw px_X.tt (px_recv hT hw 1 0 rfl rfl rfl) m9_27 m9_24 m9_25 m9_26 m1_16 q_Prg_aboutFunction ⟨Nat.le_of_ble_eq_true rfl, Nat.le_of_ble_eq_true rfl⟩ hl.1 rfl (Nat.le_of_ble_eq_true rfl) d_Txp_call_6 ⟨Nat.le_of_ble_eq_true rfl, Nat.le_of_ble_eq_true rfl⟩) hw hA (fun v53 p52 H locs hp52 hw => ?_) | refine px_calli (pr := [wd_Txp cs h r (fun k => if k = 3 then (some hp) else none) f a g]) (px_runV (As := [.int p0, .int 1]) (rest := []) S (c_Prg_aboutFunction l D cs hp rp of fp fn fd p0 1  (show fn ≤ 1000000 from by first | exact g3 | omega) (show 0 ≤ p0.toInt from by first | exact g1 | omega) (show p0.toInt ≤ 1000000 from by first | exact g2 | omega) (show 0 ≤ (1 : Int) from by first | decide | omega) (show (1 : Int) ≤ 2 from by first | decide | omega) hfd _) hT (pr := [wd_Txp cs h r (fun k => if k = 3 then (some hp) else none) f a g]) (pcs := [wd_Prg cs hp rp (fun k => if k = 2 then of else none) fp (fun _ _ => 0) (fun _ _ => none), nA cs of fn fd]) hw px_X.tt (px_recv hT hw 1 0 rfl rfl rfl) m9_27 m9_24 m9_25 m9_26 m1_16 q_Prg_aboutFunction ⟨Nat.le_of_ble_eq_true rfl, Nat.le_of_ble_eq_true rfl⟩ hl.1 rfl (Nat.le_of_ble_eq_true rfl) d_Txp_call_6 ⟨Nat.le_of_ble_eq_true rfl, Nat.le_of_ble_eq_true rfl⟩) hw hA (fun v53 p52 H locs hp52 hw => ?_)
  obtain ⟨rfl, e54⟩ := hp52
  have e54 : (1 : Int) = 0 → Lk v53 := e54
  have lv53 := Int32.le_toInt v53
  have uv53 := Int32.toInt_lt v53
  refine lv_istore_n (lv' := [(2, .int v53), (0, .ref h), (1, .int p0)]) S.x S.b d_Txp_call_9 rfl hl (by decide) rfl (fun ls hl => ?_)
  refine lv_aload_n S.x S.b d_Txp_call_10 rfl (lv_at hl 1 rfl) ?_
  refine px_get S k_Txp hT hw 0 0 3 (v := .ref hp) rfl rfl rfl (by decide) m6_216 d_Txp_call_11 ?_
  refine lv_iload_n S.x S.b d_Txp_call_14 rfl (lv_at hl 2 rfl) ?_
  refine lv_iconst (v := 2) S.x S.b d_Txp_call_15 (by decide) ?_
  first | refine px_calli (pr := [wd_Txp cs h r (fun k => if k = 3 then (some hp) else none) f a g]) (px_runV (As := [.int p0, .int 2]) (rest := []) S (c_Prg_aboutFunction l D cs hp rp of fp fn fd p0 2  (show fn ≤ 1000000 from g3) (show 0 ≤ p0.toInt from g1) (show p0.toInt ≤ 1000000 from g2) (show 0 ≤ (2 : Int) from by first | decide | omega) (show (2 : Int) ≤ 2 from by first | decide | omega) hfd _) hT (pr := [wd_Txp cs h r (fun k => if k = 3 then (some hp) else none) f a g]) (pcs := [wd_Prg cs hp rp (fun k => if k = 2 then of else none) fp (fun _ _ => 0) (fun _ _ => none), nA cs of fn fd]) hw px_X.tt (px_recv hT hw 1 0 rfl rfl rfl) m9_27 m9_24 m9_25 m9_26 m1_16 q_Prg_aboutFunction ⟨Nat.le_of_ble_eq_true rfl, Nat.le_of_ble_eq_true rfl⟩ hl.1 rfl (Nat.le_of_ble_eq_true rfl) d_Txp_call_16 ⟨Nat.le_of_ble_eq_true rfl, Nat.le_of_ble_eq_true rfl⟩) hw hA (fun v56 p55 H locs hp55 hw => ?_) | refine px_calli (pr := [wd_Txp cs h r (fun k => if k = 3 then (some hp) else none) f a g]) (px_runV (As := [.int p0, .int 2]) (rest := []) S (c_Prg_aboutFunction l D cs hp rp of fp fn fd p0 2  (show fn ≤ 1000000 from by first | exact g3 | omega) (show 0 ≤ p0.toInt from by first | exact g1 | omega) (show p0.toInt ≤ 1000000 from by first | exact g2 | omega) (show 0 ≤ (2 : Int) from by first | decide | omega) (show (2 : Int) ≤ 2 from by first | decide | omega) hfd _) hT (pr := [wd_Txp cs h r (fun k => if k = 3 then (some hp) else none) f a g]) (pcs := [wd_Prg cs hp rp (fun k => if k = 2 then of else none) fp (fun _ _ => 0) (fun _ _ => none), nA cs of fn fd]) hw px_X.tt (px_recv hT hw 1 0 rfl rfl rfl) m9_27 m9_24 m9_25 m9_26 m1_16 q_Prg_aboutFunction ⟨Nat.le_of_ble_eq_true rfl, Nat.le_of_ble_eq_true rfl⟩ hl.1 rfl (Nat.le_of_ble_eq_true rfl) d_Txp_call_16 ⟨Nat.le_of_ble_eq_true rfl, Nat.le_of_ble_eq_true rfl⟩) hw hA (fun v56 p55 H locs hp55 hw => ?_)
  obtain ⟨rfl, e57⟩ := hp55
  have e57 : (2 : Int) = 0 → Lk v56 := e57
  have lv56 := Int32.le_toInt v56
  have uv56 := Int32.toInt_lt v56
  refine lv_istore_n (lv' := [(3, .int v56), (2, .int v53), (0, .ref h), (1, .int p0)]) S.x S.b d_Txp_call_19 rfl hl (by decide) rfl (fun ls hl => ?_)
  refine lv_iconst (v := 3) S.x S.b d_Txp_call_20 (by decide) ?_
  refine lv_aload_n S.x S.b d_Txp_call_21 rfl (lv_at hl 2 rfl) ?_
  refine px_get S k_Txp hT hw 0 0 8 (v := .int (f 8)) rfl rfl rfl (by decide) m6_221 d_Txp_call_22 ?_
  refine lv_imul S.x S.b d_Txp_call_25 ?_
  have lr58 := Int32.le_toInt (f 8)
  have ur58 := Int32.toInt_lt (f 8)
  refine lv_topi (fun z59 ez59 => ?_)
  have lz59 := Int32.le_toInt z59
  have uz59 := Int32.toInt_lt z59
  have tz59 : -2147483648 ≤ 3 * (f 8).toInt → 3 * (f 8).toInt < 2147483648 → z59.toInt = 3 * (f 8).toInt := by rw [ez59]; exact i_mulc 3 (f 8) (by decide)
  try replace tz59 : z59.toInt = 3 * (f 8).toInt := by omega
  refine lv_istore (lv' := [(4, .int z59), (3, .int v56), (2, .int v53), (0, .ref h), (1, .int p0)]) S.x S.b d_Txp_call_26 hl (by decide) rfl (fun ls hl => ?_)
  refine lv_iload_n S.x S.b d_Txp_call_28 rfl (lv_at hl 2 rfl) ?_
  refine lv_aload_n S.x S.b d_Txp_call_29 rfl (lv_at hl 3 rfl) ?_
  refine px_get S k_Txp hT hw 0 0 10 (v := .int (f 10)) rfl rfl rfl (by decide) m6_223 d_Txp_call_30 ?_
  refine lv_icmp_gt (tgt := 48) S.x S.b d_Txp_call_33 (by decide) (fun c60 => ?_) (fun c60 => ?_)
  · have nc60 : (f 10).toInt < v53.toInt := (i_lt (x := (f 10)) (y := v53)).mp c60
    refine lv_aload_n S.x S.b d_Txp_call_48 rfl (lv_at hl 3 rfl) ?_
    refine lv_iconst (v := 4) S.x S.b d_Txp_call_49 (by decide) ?_
    refine lv_iconst (v := 0) S.x S.b d_Txp_call_50 (by decide) ?_
    have hw : pw D A s.heap _ _ [wd_Prg cs hp rp (fun k => if k = 2 then of else none) fp (fun _ _ => 0) (fun _ _ => none), nA cs of fn fd, wd_Txp cs h r (fun k => if k = 3 then (some hp) else none) f a g] := hw.sub [1, 2, 0] rfl rfl
    first | refine px_callv (pr := [wd_Prg cs hp rp (fun k => if k = 2 then of else none) fp (fun _ _ => 0) (fun _ _ => none), nA cs of fn fd]) (px_runU (As := [.int 4, .int 0]) (rest := []) S (c_finish_Txp l D cs h r g hp f a 4 0  (show TxOk (f 4) (f 5) (f 8) (f 9) (f 17) (f 21) (a 2) from ⟨lk, ⟨i2, i3⟩, ⟨i4, i5⟩, ⟨i6, i7⟩, i8, ⟨i9, i11⟩, i10, hrt⟩) _) hT (pr := [wd_Prg cs hp rp (fun k => if k = 2 then of else none) fp (fun _ _ => 0) (fun _ _ => none), nA cs of fn fd]) (pcs := [wd_Txp cs h r (fun k => if k = 3 then (some hp) else none) f a g]) hw px_X.tt (C := "HomeSystem$TextProcess") (x := ⟨"HomeSystem$TextProcess", "finish", "(II)V"⟩) (px_recv hT hw 2 0 rfl rfl rfl) m8_89 m9_5 m9_6 m8_85 m9_7 m1_33 rfl q_HomeSystem_AnyProcess_finish ⟨Nat.le_of_ble_eq_true rfl, Nat.le_of_ble_eq_true rfl⟩ hl.1 rfl (Nat.le_of_ble_eq_true rfl) d_Txp_call_51 ⟨Nat.le_of_ble_eq_true rfl, Nat.le_of_ble_eq_true rfl⟩) hw hA (fun p63 H locs hp63 hw => ?_) | refine px_callv (pr := [wd_Prg cs hp rp (fun k => if k = 2 then of else none) fp (fun _ _ => 0) (fun _ _ => none), nA cs of fn fd]) (px_runU (As := [.int 4, .int 0]) (rest := []) S (c_finish_Txp l D cs h r g hp f a 4 0  (show TxOk (f 4) (f 5) (f 8) (f 9) (f 17) (f 21) (a 2) from ⟨lk, ⟨by first | exact i2 | omega, by first | exact i3 | omega⟩, ⟨by first | exact i4 | omega, by first | exact i5 | omega⟩, ⟨by first | exact i6 | omega, by first | exact i7 | omega⟩, by first | exact i8 | omega, ⟨by first | exact i9 | omega, by first | exact i11 | omega⟩, by first | exact i10 | omega, hrt⟩) _) hT (pr := [wd_Prg cs hp rp (fun k => if k = 2 then of else none) fp (fun _ _ => 0) (fun _ _ => none), nA cs of fn fd]) (pcs := [wd_Txp cs h r (fun k => if k = 3 then (some hp) else none) f a g]) hw px_X.tt (C := "HomeSystem$TextProcess") (x := ⟨"HomeSystem$TextProcess", "finish", "(II)V"⟩) (px_recv hT hw 2 0 rfl rfl rfl) m8_89 m9_5 m9_6 m8_85 m9_7 m1_33 rfl q_HomeSystem_AnyProcess_finish ⟨Nat.le_of_ble_eq_true rfl, Nat.le_of_ble_eq_true rfl⟩ hl.1 rfl (Nat.le_of_ble_eq_true rfl) d_Txp_call_51 ⟨Nat.le_of_ble_eq_true rfl, Nat.le_of_ble_eq_true rfl⟩) hw hA (fun p63 H locs hp63 hw => ?_)
    obtain ⟨f61, a62, rfl, h70, e65, e66, e67, e68, e69⟩ := hp63
    obtain ⟨lk, ⟨i2, i3⟩, ⟨i4, i5⟩, ⟨i6, i7⟩, i8, ⟨i9, i11⟩, i10, hrt⟩ := h70
    have e65 : (f61 9).toInt = (f 9).toInt := e65
    have e66 : (f61 17).toInt = (f 17).toInt := e66
    have e67 : (f61 21).toInt = 0 := e67
    have e68 : (f61 15).toInt = (f 15).toInt := e68
    have e69 : (f61 20).toInt = (f 20).toInt := e69
    have hw : pw D A s.heap _ _ [wd_Txp cs h r (fun k => if k = 3 then (some hp) else none) f61 a62 g, wd_Prg cs hp rp (fun k => if k = 2 then of else none) fp (fun _ _ => 0) (fun _ _ => none), nA cs of fn fd] := hw.sub [2, 0, 1] rfl rfl
    first | exact px_vret S hr hlk hAe hw (Nat.le_of_ble_eq_true rfl) (Nat.le_of_ble_eq_true rfl) (⟨f61, a62, rfl, (show TxOk (f61 4) (f61 5) (f61 8) (f61 9) (f61 17) (f61 21) (a62 2) from ⟨lk, ⟨i2, i3⟩, ⟨i4, i5⟩, ⟨i6, i7⟩, i8, ⟨i9, i11⟩, i10, hrt⟩), (show (f61 9).toInt = (f 9).toInt from e65), (show (f61 17).toInt = (f 17).toInt from e66), (show (f61 21).toInt = 0 from e67), (show (f61 15).toInt = (f 15).toInt from e68), (show (f61 20).toInt = (f 20).toInt from e69)⟩) d_Txp_call_54 | exact px_vret S hr hlk hAe hw (Nat.le_of_ble_eq_true rfl) (Nat.le_of_ble_eq_true rfl) (⟨f61, a62, rfl, (show TxOk (f61 4) (f61 5) (f61 8) (f61 9) (f61 17) (f61 21) (a62 2) from ⟨lk, ⟨by first | exact i2 | omega, by first | exact i3 | omega⟩, ⟨by first | exact i4 | omega, by first | exact i5 | omega⟩, ⟨by first | exact i6 | omega, by first | exact i7 | omega⟩, by first | exact i8 | omega, ⟨by first | exact i9 | omega, by first | exact i11 | omega⟩, by first | exact i10 | omega, hrt⟩), (show (f61 9).toInt = (f 9).toInt from by first | exact e65 | omega), (show (f61 17).toInt = (f 17).toInt from by first | exact e66 | omega), (show (f61 21).toInt = 0 from by first | exact e67 | omega), (show (f61 15).toInt = (f 15).toInt from by first | exact e68 | omega), (show (f61 20).toInt = (f 20).toInt from by first | exact e69 | omega)⟩) d_Txp_call_54
  · have nc60 : ¬ (f 10).toInt < v53.toInt := mt (i_lt (x := (f 10)) (y := v53)).mpr c60
    refine lv_iload S.x S.b d_Txp_call_36 (lv_at hl 0 rfl) ?_
    refine lv_iconst (v := 3) S.x S.b d_Txp_call_38 (by decide) ?_
    refine lv_iadd S.x S.b d_Txp_call_39 ?_
    refine lv_topi (fun z71 ez71 => ?_)
    have tz71 : z71.toInt = (z59.toInt + (3 : Int) + 2147483648) % 4294967296 - 2147483648 := by rw [ez71]; exact i_add z59 3
    have lz71 := Int32.le_toInt z71
    have uz71 := Int32.toInt_lt z71
    try replace tz71 : z71.toInt = z59.toInt + (3 : Int) := by omega
    refine lv_aload_n S.x S.b d_Txp_call_40 rfl (lv_at hl 3 rfl) ?_
    refine px_get S k_Txp hT hw 0 0 2 (v := .ref (r 2)) rfl rfl rfl (by decide) m6_215 d_Txp_call_41 ?_
    refine px_len S hT hw 0 3 0 rfl rfl rfl (v := 303) rfl d_Txp_call_44 ?_
    refine lv_icmp_le (tgt := 55) S.x S.b d_Txp_call_45 (by decide) (fun c72 => ?_) (fun c72 => ?_)
    · have nc72 : z71.toInt ≤ (303 : Int) := (i_le (x := z71) (y := 303)).mp c72
      first | exact J55 f a v53 v56 z59 _ _ ls (show TxOk (f 4) (f 5) (f 8) (f 9) (f 17) (f 21) (a 2) from ⟨lk, ⟨i2, i3⟩, ⟨i4, i5⟩, ⟨i6, i7⟩, i8, ⟨i9, i11⟩, i10, hrt⟩) (show (f 9).toInt = (f 9).toInt from rfl) (show (f 17).toInt = (f 17).toInt from rfl) (show (f 21).toInt = 0 from g0) (show (f 15).toInt = (f 15).toInt from rfl) (show (f 20).toInt = (f 20).toInt from rfl) (show z59.toInt = 3 * (f 8).toInt from tz59) (show z59.toInt ≤ 300 from (oz_97e7e0cad7 tz71 nc72)) hw (lv_sub hl [3, 4, 2, 1, 0] rfl) | exact J55 f a v53 v56 z59 _ _ ls (show TxOk (f 4) (f 5) (f 8) (f 9) (f 17) (f 21) (a 2) from ⟨lk, ⟨by first | exact i2 | omega, by first | exact i3 | omega⟩, ⟨by first | exact i4 | omega, by first | exact i5 | omega⟩, ⟨by first | exact i6 | omega, by first | exact i7 | omega⟩, by first | exact i8 | omega, ⟨by first | exact i9 | omega, by first | exact i11 | omega⟩, by first | exact i10 | omega, hrt⟩) (show (f 9).toInt = (f 9).toInt from rfl) (show (f 17).toInt = (f 17).toInt from rfl) (show (f 21).toInt = 0 from by first | exact g0 | omega) (show (f 15).toInt = (f 15).toInt from rfl) (show (f 20).toInt = (f 20).toInt from rfl) (show z59.toInt = 3 * (f 8).toInt from by first | exact tz59 | omega) (show z59.toInt ≤ 300 from by first | exact oz_97e7e0cad7 tz71 nc72 | omega) hw (lv_sub hl [3, 4, 2, 1, 0] rfl)
    · have nc72 : ¬ z71.toInt ≤ (303 : Int) := mt (i_le (x := z71) (y := 303)).mpr c72
      refine lv_aload_n S.x S.b d_Txp_call_48 rfl (lv_at hl 3 rfl) ?_
      refine lv_iconst (v := 4) S.x S.b d_Txp_call_49 (by decide) ?_
      refine lv_iconst (v := 0) S.x S.b d_Txp_call_50 (by decide) ?_
      have hw : pw D A s.heap _ _ [wd_Prg cs hp rp (fun k => if k = 2 then of else none) fp (fun _ _ => 0) (fun _ _ => none), nA cs of fn fd, wd_Txp cs h r (fun k => if k = 3 then (some hp) else none) f a g] := hw.sub [1, 2, 0] rfl rfl
      first | refine px_callv (pr := [wd_Prg cs hp rp (fun k => if k = 2 then of else none) fp (fun _ _ => 0) (fun _ _ => none), nA cs of fn fd]) (px_runU (As := [.int 4, .int 0]) (rest := []) S (c_finish_Txp l D cs h r g hp f a 4 0  (show TxOk (f 4) (f 5) (f 8) (f 9) (f 17) (f 21) (a 2) from ⟨lk, ⟨i2, i3⟩, ⟨i4, i5⟩, ⟨i6, i7⟩, i8, ⟨i9, i11⟩, i10, hrt⟩) _) hT (pr := [wd_Prg cs hp rp (fun k => if k = 2 then of else none) fp (fun _ _ => 0) (fun _ _ => none), nA cs of fn fd]) (pcs := [wd_Txp cs h r (fun k => if k = 3 then (some hp) else none) f a g]) hw px_X.tt (C := "HomeSystem$TextProcess") (x := ⟨"HomeSystem$TextProcess", "finish", "(II)V"⟩) (px_recv hT hw 2 0 rfl rfl rfl) m8_89 m9_5 m9_6 m8_85 m9_7 m1_33 rfl q_HomeSystem_AnyProcess_finish ⟨Nat.le_of_ble_eq_true rfl, Nat.le_of_ble_eq_true rfl⟩ hl.1 rfl (Nat.le_of_ble_eq_true rfl) d_Txp_call_51 ⟨Nat.le_of_ble_eq_true rfl, Nat.le_of_ble_eq_true rfl⟩) hw hA (fun p75 H locs hp75 hw => ?_) | refine px_callv (pr := [wd_Prg cs hp rp (fun k => if k = 2 then of else none) fp (fun _ _ => 0) (fun _ _ => none), nA cs of fn fd]) (px_runU (As := [.int 4, .int 0]) (rest := []) S (c_finish_Txp l D cs h r g hp f a 4 0  (show TxOk (f 4) (f 5) (f 8) (f 9) (f 17) (f 21) (a 2) from ⟨lk, ⟨by first | exact i2 | omega, by first | exact i3 | omega⟩, ⟨by first | exact i4 | omega, by first | exact i5 | omega⟩, ⟨by first | exact i6 | omega, by first | exact i7 | omega⟩, by first | exact i8 | omega, ⟨by first | exact i9 | omega, by first | exact i11 | omega⟩, by first | exact i10 | omega, hrt⟩) _) hT (pr := [wd_Prg cs hp rp (fun k => if k = 2 then of else none) fp (fun _ _ => 0) (fun _ _ => none), nA cs of fn fd]) (pcs := [wd_Txp cs h r (fun k => if k = 3 then (some hp) else none) f a g]) hw px_X.tt (C := "HomeSystem$TextProcess") (x := ⟨"HomeSystem$TextProcess", "finish", "(II)V"⟩) (px_recv hT hw 2 0 rfl rfl rfl) m8_89 m9_5 m9_6 m8_85 m9_7 m1_33 rfl q_HomeSystem_AnyProcess_finish ⟨Nat.le_of_ble_eq_true rfl, Nat.le_of_ble_eq_true rfl⟩ hl.1 rfl (Nat.le_of_ble_eq_true rfl) d_Txp_call_51 ⟨Nat.le_of_ble_eq_true rfl, Nat.le_of_ble_eq_true rfl⟩) hw hA (fun p75 H locs hp75 hw => ?_)
      obtain ⟨f73, a74, rfl, h82, e77, e78, e79, e80, e81⟩ := hp75
      obtain ⟨lk, ⟨i2, i3⟩, ⟨i4, i5⟩, ⟨i6, i7⟩, i8, ⟨i9, i11⟩, i10, hrt⟩ := h82
      have e77 : (f73 9).toInt = (f 9).toInt := e77
      have e78 : (f73 17).toInt = (f 17).toInt := e78
      have e79 : (f73 21).toInt = 0 := e79
      have e80 : (f73 15).toInt = (f 15).toInt := e80
      have e81 : (f73 20).toInt = (f 20).toInt := e81
      have hw : pw D A s.heap _ _ [wd_Txp cs h r (fun k => if k = 3 then (some hp) else none) f73 a74 g, wd_Prg cs hp rp (fun k => if k = 2 then of else none) fp (fun _ _ => 0) (fun _ _ => none), nA cs of fn fd] := hw.sub [2, 0, 1] rfl rfl
      first | exact px_vret S hr hlk hAe hw (Nat.le_of_ble_eq_true rfl) (Nat.le_of_ble_eq_true rfl) (⟨f73, a74, rfl, (show TxOk (f73 4) (f73 5) (f73 8) (f73 9) (f73 17) (f73 21) (a74 2) from ⟨lk, ⟨i2, i3⟩, ⟨i4, i5⟩, ⟨i6, i7⟩, i8, ⟨i9, i11⟩, i10, hrt⟩), (show (f73 9).toInt = (f 9).toInt from e77), (show (f73 17).toInt = (f 17).toInt from e78), (show (f73 21).toInt = 0 from e79), (show (f73 15).toInt = (f 15).toInt from e80), (show (f73 20).toInt = (f 20).toInt from e81)⟩) d_Txp_call_54 | exact px_vret S hr hlk hAe hw (Nat.le_of_ble_eq_true rfl) (Nat.le_of_ble_eq_true rfl) (⟨f73, a74, rfl, (show TxOk (f73 4) (f73 5) (f73 8) (f73 9) (f73 17) (f73 21) (a74 2) from ⟨lk, ⟨by first | exact i2 | omega, by first | exact i3 | omega⟩, ⟨by first | exact i4 | omega, by first | exact i5 | omega⟩, ⟨by first | exact i6 | omega, by first | exact i7 | omega⟩, by first | exact i8 | omega, ⟨by first | exact i9 | omega, by first | exact i11 | omega⟩, by first | exact i10 | omega, hrt⟩), (show (f73 9).toInt = (f 9).toInt from by first | exact e77 | omega), (show (f73 17).toInt = (f 17).toInt from by first | exact e78 | omega), (show (f73 21).toInt = 0 from by first | exact e79 | omega), (show (f73 15).toInt = (f 15).toInt from by first | exact e80 | omega), (show (f73 20).toInt = (f 20).toInt from by first | exact e81 | omega)⟩) d_Txp_call_54
abbrev b_Txp_compute : ByteArray := prog_11_method_13_code
def y_Txp_compute : MethodName := ⟨"HomeSystem$TextProcess", "compute", "(IIIII)V"⟩
theorem d_Txp_compute_0 : decode b_Txp_compute 0 = .ok (.iload_n 1, 1) := by decide +kernel
theorem d_Txp_compute_1 : decode b_Txp_compute 1 = .ok (.tableswitch 220 1 13 #[67, 220, 220, 220, 220, 75, 83, 91, 106, 125, 140, 167, 187], 67) := by decide +kernel
theorem d_Txp_compute_68 : decode b_Txp_compute 68 = .ok (.aload_n 0, 1) := by decide +kernel
theorem d_Txp_compute_69 : decode b_Txp_compute 69 = .ok (.iload_n 3, 1) := by decide +kernel
theorem d_Txp_compute_70 : decode b_Txp_compute 70 = .ok (.invokevirtual 74, 3) := by decide +kernel
theorem d_Txp_compute_73 : decode b_Txp_compute 73 = .ok (.goto 169, 3) := by decide +kernel
theorem d_Txp_compute_76 : decode b_Txp_compute 76 = .ok (.aload_n 0, 1) := by decide +kernel
theorem d_Txp_compute_77 : decode b_Txp_compute 77 = .ok (.invokevirtual 119, 3) := by decide +kernel
theorem d_Txp_compute_80 : decode b_Txp_compute 80 = .ok (.pop, 1) := by decide +kernel
theorem d_Txp_compute_81 : decode b_Txp_compute 81 = .ok (.goto 161, 3) := by decide +kernel
theorem d_Txp_compute_84 : decode b_Txp_compute 84 = .ok (.aload_n 0, 1) := by decide +kernel
theorem d_Txp_compute_85 : decode b_Txp_compute 85 = .ok (.iload_n 3, 1) := by decide +kernel
theorem d_Txp_compute_86 : decode b_Txp_compute 86 = .ok (.invokevirtual 123, 3) := by decide +kernel
theorem d_Txp_compute_89 : decode b_Txp_compute 89 = .ok (.goto 153, 3) := by decide +kernel
theorem d_Txp_compute_92 : decode b_Txp_compute 92 = .ok (.aload_n 0, 1) := by decide +kernel
theorem d_Txp_compute_93 : decode b_Txp_compute 93 = .ok (.iload_n 3, 1) := by decide +kernel
theorem d_Txp_compute_94 : decode b_Txp_compute 94 = .ok (.aload_n 0, 1) := by decide +kernel
theorem d_Txp_compute_95 : decode b_Txp_compute 95 = .ok (.invokevirtual 119, 3) := by decide +kernel
theorem d_Txp_compute_98 : decode b_Txp_compute 98 = .ok (.invokestatic 126, 3) := by decide +kernel
theorem d_Txp_compute_101 : decode b_Txp_compute 101 = .ok (.invokevirtual 74, 3) := by decide +kernel
theorem d_Txp_compute_104 : decode b_Txp_compute 104 = .ok (.goto 138, 3) := by decide +kernel
theorem d_Txp_compute_107 : decode b_Txp_compute 107 = .ok (.aload_n 0, 1) := by decide +kernel
theorem d_Txp_compute_108 : decode b_Txp_compute 108 = .ok (.aload_n 0, 1) := by decide +kernel
theorem d_Txp_compute_109 : decode b_Txp_compute 109 = .ok (.invokevirtual 119, 3) := by decide +kernel
theorem d_Txp_compute_112 : decode b_Txp_compute 112 = .ok (.ifCond .eq 7, 3) := by decide +kernel
theorem d_Txp_compute_115 : decode b_Txp_compute 115 = .ok (.iconst 1, 1) := by decide +kernel
theorem d_Txp_compute_116 : decode b_Txp_compute 116 = .ok (.goto 4, 3) := by decide +kernel
theorem d_Txp_compute_119 : decode b_Txp_compute 119 = .ok (.iconst 0, 1) := by decide +kernel
theorem d_Txp_compute_120 : decode b_Txp_compute 120 = .ok (.invokevirtual 74, 3) := by decide +kernel
theorem d_Txp_compute_123 : decode b_Txp_compute 123 = .ok (.goto 119, 3) := by decide +kernel
theorem d_Txp_compute_126 : decode b_Txp_compute 126 = .ok (.aload_n 0, 1) := by decide +kernel
theorem d_Txp_compute_127 : decode b_Txp_compute 127 = .ok (.aload_n 0, 1) := by decide +kernel
theorem d_Txp_compute_128 : decode b_Txp_compute 128 = .ok (.invokevirtual 119, 3) := by decide +kernel
theorem d_Txp_compute_131 : decode b_Txp_compute 131 = .ok (.sipush 255, 3) := by decide +kernel
theorem d_Txp_compute_134 : decode b_Txp_compute 134 = .ok (.iand, 1) := by decide +kernel
theorem d_Txp_compute_135 : decode b_Txp_compute 135 = .ok (.invokevirtual 74, 3) := by decide +kernel
theorem d_Txp_compute_138 : decode b_Txp_compute 138 = .ok (.goto 104, 3) := by decide +kernel
theorem d_Txp_compute_141 : decode b_Txp_compute 141 = .ok (.aload_n 0, 1) := by decide +kernel
theorem d_Txp_compute_142 : decode b_Txp_compute 142 = .ok (.aload_n 0, 1) := by decide +kernel
theorem d_Txp_compute_143 : decode b_Txp_compute 143 = .ok (.iload_n 3, 1) := by decide +kernel
theorem d_Txp_compute_144 : decode b_Txp_compute 144 = .ok (.iload 4, 2) := by decide +kernel
theorem d_Txp_compute_146 : decode b_Txp_compute 146 = .ok (.invokevirtual 129, 3) := by decide +kernel
theorem d_Txp_compute_149 : decode b_Txp_compute 149 = .ok (.invokevirtual 74, 3) := by decide +kernel
theorem d_Txp_compute_152 : decode b_Txp_compute 152 = .ok (.aload_n 0, 1) := by decide +kernel
theorem d_Txp_compute_153 : decode b_Txp_compute 153 = .ok (.aload_n 0, 1) := by decide +kernel
theorem d_Txp_compute_154 : decode b_Txp_compute 154 = .ok (.iload_n 3, 1) := by decide +kernel
theorem d_Txp_compute_155 : decode b_Txp_compute 155 = .ok (.iload 4, 2) := by decide +kernel
theorem d_Txp_compute_157 : decode b_Txp_compute 157 = .ok (.iload 5, 2) := by decide +kernel
theorem d_Txp_compute_159 : decode b_Txp_compute 159 = .ok (.invokevirtual 132, 3) := by decide +kernel
theorem d_Txp_compute_162 : decode b_Txp_compute 162 = .ok (.invokevirtual 74, 3) := by decide +kernel
theorem d_Txp_compute_165 : decode b_Txp_compute 165 = .ok (.goto 77, 3) := by decide +kernel
theorem d_Txp_compute_168 : decode b_Txp_compute 168 = .ok (.aload_n 0, 1) := by decide +kernel
theorem d_Txp_compute_169 : decode b_Txp_compute 169 = .ok (.invokevirtual 119, 3) := by decide +kernel
theorem d_Txp_compute_172 : decode b_Txp_compute 172 = .ok (.istore 6, 2) := by decide +kernel
theorem d_Txp_compute_174 : decode b_Txp_compute 174 = .ok (.aload_n 0, 1) := by decide +kernel
theorem d_Txp_compute_175 : decode b_Txp_compute 175 = .ok (.invokevirtual 119, 3) := by decide +kernel
theorem d_Txp_compute_178 : decode b_Txp_compute 178 = .ok (.pop, 1) := by decide +kernel
theorem d_Txp_compute_179 : decode b_Txp_compute 179 = .ok (.aload_n 0, 1) := by decide +kernel
theorem d_Txp_compute_180 : decode b_Txp_compute 180 = .ok (.iload 6, 2) := by decide +kernel
theorem d_Txp_compute_182 : decode b_Txp_compute 182 = .ok (.invokevirtual 74, 3) := by decide +kernel
theorem d_Txp_compute_185 : decode b_Txp_compute 185 = .ok (.goto 57, 3) := by decide +kernel
theorem d_Txp_compute_188 : decode b_Txp_compute 188 = .ok (.iconst 0, 1) := by decide +kernel
theorem d_Txp_compute_189 : decode b_Txp_compute 189 = .ok (.istore 7, 2) := by decide +kernel
theorem d_Txp_compute_191 : decode b_Txp_compute 191 = .ok (.iload 7, 2) := by decide +kernel
theorem d_Txp_compute_193 : decode b_Txp_compute 193 = .ok (.iload 4, 2) := by decide +kernel
theorem d_Txp_compute_195 : decode b_Txp_compute 195 = .ok (.if_icmp .ge 23, 3) := by decide +kernel
theorem d_Txp_compute_198 : decode b_Txp_compute 198 = .ok (.aload_n 0, 1) := by decide +kernel
theorem d_Txp_compute_199 : decode b_Txp_compute 199 = .ok (.aload_n 0, 1) := by decide +kernel
theorem d_Txp_compute_200 : decode b_Txp_compute 200 = .ok (.getfield 50, 3) := by decide +kernel
theorem d_Txp_compute_203 : decode b_Txp_compute 203 = .ok (.iload_n 3, 1) := by decide +kernel
theorem d_Txp_compute_204 : decode b_Txp_compute 204 = .ok (.iadd, 1) := by decide +kernel
theorem d_Txp_compute_205 : decode b_Txp_compute 205 = .ok (.iload 7, 2) := by decide +kernel
theorem d_Txp_compute_207 : decode b_Txp_compute 207 = .ok (.iadd, 1) := by decide +kernel
theorem d_Txp_compute_208 : decode b_Txp_compute 208 = .ok (.iconst 0, 1) := by decide +kernel
theorem d_Txp_compute_209 : decode b_Txp_compute 209 = .ok (.invokevirtual 98, 3) := by decide +kernel
theorem d_Txp_compute_212 : decode b_Txp_compute 212 = .ok (.iinc 7 1, 3) := by decide +kernel
theorem d_Txp_compute_215 : decode b_Txp_compute 215 = .ok (.goto (-24), 3) := by decide +kernel
theorem d_Txp_compute_218 : decode b_Txp_compute 218 = .ok (.goto 24, 3) := by decide +kernel
theorem d_Txp_compute_221 : decode b_Txp_compute 221 = .ok (.aload_n 0, 1) := by decide +kernel
theorem d_Txp_compute_222 : decode b_Txp_compute 222 = .ok (.iload_n 3, 1) := by decide +kernel
theorem d_Txp_compute_223 : decode b_Txp_compute 223 = .ok (.aload_n 0, 1) := by decide +kernel
theorem d_Txp_compute_224 : decode b_Txp_compute 224 = .ok (.iload_n 3, 1) := by decide +kernel
theorem d_Txp_compute_225 : decode b_Txp_compute 225 = .ok (.iload 4, 2) := by decide +kernel
theorem d_Txp_compute_227 : decode b_Txp_compute 227 = .ok (.invokevirtual 129, 3) := by decide +kernel
theorem d_Txp_compute_230 : decode b_Txp_compute 230 = .ok (.iload_n 2, 1) := by decide +kernel
theorem d_Txp_compute_231 : decode b_Txp_compute 231 = .ok (.invokevirtual 136, 3) := by decide +kernel
theorem d_Txp_compute_234 : decode b_Txp_compute 234 = .ok (.aload_n 0, 1) := by decide +kernel
theorem d_Txp_compute_235 : decode b_Txp_compute 235 = .ok (.iload_n 3, 1) := by decide +kernel
theorem d_Txp_compute_236 : decode b_Txp_compute 236 = .ok (.iload 5, 2) := by decide +kernel
theorem d_Txp_compute_238 : decode b_Txp_compute 238 = .ok (.invokevirtual 139, 3) := by decide +kernel
theorem d_Txp_compute_241 : decode b_Txp_compute 241 = .ok (.pop, 1) := by decide +kernel
theorem d_Txp_compute_242 : decode b_Txp_compute 242 = .ok (.return_, 1) := by decide +kernel
theorem q_Txp_compute : px_y y_Txp_compute 5 := by unfold px_y; decide +kernel
set_option maxHeartbeats 4000000 in
set_option maxRecDepth 100000 in
theorem c_Txp_compute (l : Launch) (D : va_G) (cs : Nat → ClassId) (h : Nat) (r : Nat → Nat) (g : Nat → Nat → Option Nat) (hp : Nat) (f : Nat → Int32) (a : Nat → Nat → Int32) (p0 p1 p2 p3 p4 : Int32)  (hinv0 : TxOk (f 4) (f 5) (f 8) (f 9) (f 17) (f 21) (a 2)) (g0 : (f 21).toInt = 0) : MetV l y_Txp_compute b_Txp_compute 8 D cs 2 70 (0) (0) [.ref h, .int p0, .int p1, .int p2, .int p3, .int p4] [wd_Txp cs h r (fun k => if k = 3 then (some hp) else none) f a g] (fun _ => True) (fun ps => ∃ (f' : Nat → Int32) (a' : Nat → Nat → Int32), (ps = [wd_Txp cs h r (fun k => if k = 3 then (some hp) else none) f' a' g]) ∧ (TxOk (f' 4) (f' 5) (f' 8) (f' 9) (f' 17) (f' 21) (a' 2)) ∧ ((f' 9).toInt = (f 9).toInt) ∧ ((f' 17).toInt = (f 17).toInt) ∧ ((f' 21).toInt = 0) ∧ ((f' 15).toInt = (f 15).toInt) ∧ ((f' 20).toInt = (f 20).toInt)) := by
  refine px_enter (by decide) (Nat.le_of_ble_eq_true rfl) ?_
  intro p e s m below meth c A ls hAe S hr hlk hnm hA hT hX hw hl
  have hl : lv_has ls 8 [(0, .ref h), (1, .int p0), (2, .int p1), (3, .int p2), (4, .int p3), (5, .int p4)] := hl
  have lp0 := Int32.le_toInt p0
  have up0 := Int32.toInt_lt p0
  have lp1 := Int32.le_toInt p1
  have up1 := Int32.toInt_lt p1
  have lp2 := Int32.le_toInt p2
  have up2 := Int32.toInt_lt p2
  have lp3 := Int32.le_toInt p3
  have up3 := Int32.toInt_lt p3
  have lp4 := Int32.le_toInt p4
  have up4 := Int32.toInt_lt p4
  have cst0 : (0 : Int32).toInt = 0 := rfl
  have cst1 : (1 : Int32).toInt = 1 := rfl
  have cst255 : (255 : Int32).toInt = 255 := rfl
  obtain ⟨lk, ⟨i2, i3⟩, ⟨i4, i5⟩, ⟨i6, i7⟩, i8, ⟨i9, i11⟩, i10, hrt⟩ := hinv0
  have J191 : ∀ (n : Nat) (f_191 : Nat → Int32) (a_191 : Nat → Nat → Int32) (x191_7 : Int32) (H : Heap) (locs : List Loc) (ls : Array Slot), (TxOk (f_191 4) (f_191 5) (f_191 8) (f_191 9) (f_191 17) (f_191 21) (a_191 2)) → ((f_191 9).toInt = (f 9).toInt) → ((f_191 17).toInt = (f 17).toInt) → ((f_191 21).toInt = 0) → ((f_191 15).toInt = (f 15).toInt) → ((f_191 20).toInt = (f 20).toInt) → (0 ≤ x191_7.toInt) → p3.toInt-x191_7.toInt+4294967297 < (n : Int) → pw D A s.heap H locs [wd_Txp cs h r (fun k => if k = 3 then (some hp) else none) f_191 a_191 g] → lv_has ls 8 [(0, .ref h), (1, .int p0), (2, .int p1), (3, .int p2), (4, .int p3), (5, .int p4), (7, .int x191_7)] → W p l e { frames := 2, cells := 0, slots := 0, locals := 70 } s m [.ref h, .int p0, .int p1, .int p2, .int p3, .int p4].toArray below meth c H locs 0 0 (MQ below (va_Qv (fun ps => ∃ (f' : Nat → Int32) (a' : Nat → Nat → Int32), (ps = [wd_Txp cs h r (fun k => if k = 3 then (some hp) else none) f' a' g]) ∧ (TxOk (f' 4) (f' 5) (f' 8) (f' 9) (f' 17) (f' 21) (a' 2)) ∧ ((f' 9).toInt = (f 9).toInt) ∧ ((f' 17).toInt = (f 17).toInt) ∧ ((f' 21).toInt = 0) ∧ ((f' 15).toInt = (f 15).toInt) ∧ ((f' 20).toInt = (f 20).toInt)) (pc_B D (va_A ([wd_Txp cs h r (fun k => if k = 3 then (some hp) else none) f a g] : List va_W).flatten s.heap.size)) (va_A ([wd_Txp cs h r (fun k => if k = 3 then (some hp) else none) f a g] : List va_W).flatten s.heap.size)) [.ref h, .int p0, .int p1, .int p2, .int p3, .int p4].toArray s 0 0 A) (F0 m 191 ls []) := by
    intro n
    induction n with
    | zero =>
      intro f_191 a_191 x191_7 H locs ls hi191_0 k191_0 k191_1 k191_2 k191_3 k191_4 k191_5 hm hw hl
      obtain ⟨lk, ⟨i2, i3⟩, ⟨i4, i5⟩, ⟨i6, i7⟩, i8, ⟨i9, i11⟩, i10, hrt⟩ := hi191_0
      have lx191_7 := Int32.le_toInt x191_7
      have ux191_7 := Int32.toInt_lt x191_7
      exact absurd hm (by omega)
    | succ n ih =>
      intro f_191 a_191 x191_7 H locs ls hi191_0 k191_0 k191_1 k191_2 k191_3 k191_4 k191_5 hm hw hl
      obtain ⟨lk, ⟨i2, i3⟩, ⟨i4, i5⟩, ⟨i6, i7⟩, i8, ⟨i9, i11⟩, i10, hrt⟩ := hi191_0
      have lx191_7 := Int32.le_toInt x191_7
      have ux191_7 := Int32.toInt_lt x191_7
      refine lv_iload S.x S.b d_Txp_compute_191 (lv_at hl 6 rfl) ?_
      refine lv_iload S.x S.b d_Txp_compute_193 (lv_at hl 4 rfl) ?_
      refine lv_icmp_ge (tgt := 218) S.x S.b d_Txp_compute_195 (by decide) (fun c1 => ?_) (fun c1 => ?_)
      · have nc1 : p3.toInt ≤ x191_7.toInt := (i_le (x := p3) (y := x191_7)).mp c1
        refine lv_goto (tgt := 242) S.x S.b d_Txp_compute_218 (by decide) ?_
        first | exact px_vret S hr hlk hAe hw (Nat.le_of_ble_eq_true rfl) (Nat.le_of_ble_eq_true rfl) (⟨f_191, a_191, rfl, (show TxOk (f_191 4) (f_191 5) (f_191 8) (f_191 9) (f_191 17) (f_191 21) (a_191 2) from ⟨lk, ⟨i2, i3⟩, ⟨i4, i5⟩, ⟨i6, i7⟩, i8, ⟨i9, i11⟩, i10, hrt⟩), (show (f_191 9).toInt = (f 9).toInt from k191_0), (show (f_191 17).toInt = (f 17).toInt from k191_1), (show (f_191 21).toInt = 0 from k191_2), (show (f_191 15).toInt = (f 15).toInt from k191_3), (show (f_191 20).toInt = (f 20).toInt from k191_4)⟩) d_Txp_compute_242 | exact px_vret S hr hlk hAe hw (Nat.le_of_ble_eq_true rfl) (Nat.le_of_ble_eq_true rfl) (⟨f_191, a_191, rfl, (show TxOk (f_191 4) (f_191 5) (f_191 8) (f_191 9) (f_191 17) (f_191 21) (a_191 2) from ⟨lk, ⟨by first | exact i2 | omega, by first | exact i3 | omega⟩, ⟨by first | exact i4 | omega, by first | exact i5 | omega⟩, ⟨by first | exact i6 | omega, by first | exact i7 | omega⟩, by first | exact i8 | omega, ⟨by first | exact i9 | omega, by first | exact i11 | omega⟩, by first | exact i10 | omega, hrt⟩), (show (f_191 9).toInt = (f 9).toInt from by first | exact k191_0 | omega), (show (f_191 17).toInt = (f 17).toInt from by first | exact k191_1 | omega), (show (f_191 21).toInt = 0 from by first | exact k191_2 | omega), (show (f_191 15).toInt = (f 15).toInt from by first | exact k191_3 | omega), (show (f_191 20).toInt = (f 20).toInt from by first | exact k191_4 | omega)⟩) d_Txp_compute_242
      · have nc1 : ¬ p3.toInt ≤ x191_7.toInt := mt (i_le (x := p3) (y := x191_7)).mpr c1
        refine lv_aload_n S.x S.b d_Txp_compute_198 rfl (lv_at hl 0 rfl) ?_
        refine lv_aload_n S.x S.b d_Txp_compute_199 rfl (lv_at hl 0 rfl) ?_
        refine px_get S k_Txp hT hw 0 0 6 (v := .int (f_191 6)) rfl rfl rfl (by decide) m6_219 d_Txp_compute_200 ?_
        refine lv_iload_n S.x S.b d_Txp_compute_203 rfl (lv_at hl 3 rfl) ?_
        refine lv_iadd S.x S.b d_Txp_compute_204 ?_
        have lr2 := Int32.le_toInt (f_191 6)
        have ur2 := Int32.toInt_lt (f_191 6)
        refine lv_topi (fun z3 ez3 => ?_)
        have lz3 := Int32.le_toInt z3
        have uz3 := Int32.toInt_lt z3
        refine lv_iload S.x S.b d_Txp_compute_205 (lv_at hl 6 rfl) ?_
        refine lv_iadd S.x S.b d_Txp_compute_207 ?_
        refine lv_topi (fun z4 ez4 => ?_)
        have lz4 := Int32.le_toInt z4
        have uz4 := Int32.toInt_lt z4
        refine lv_iconst (v := 0) S.x S.b d_Txp_compute_208 (by decide) ?_
        first | refine px_callv (pr := []) (px_runV (As := [.int z4, .int 0]) (rest := []) S (c_Txp_poke l D cs h r g hp f_191 a_191 z4 0  (show TxOk (f_191 4) (f_191 5) (f_191 8) (f_191 9) (f_191 17) (f_191 21) (a_191 2) from ⟨lk, ⟨i2, i3⟩, ⟨i4, i5⟩, ⟨i6, i7⟩, i8, ⟨i9, i11⟩, i10, hrt⟩) _) hT (pr := []) (pcs := [wd_Txp cs h r (fun k => if k = 3 then (some hp) else none) f_191 a_191 g]) hw px_X.tt (px_recv hT hw 0 0 rfl rfl rfl) m8_129 m8_126 m8_128 ms_5_13 m1_35 q_Txp_poke ⟨Nat.le_of_ble_eq_true rfl, Nat.le_of_ble_eq_true rfl⟩ hl.1 rfl (Nat.le_of_ble_eq_true rfl) d_Txp_compute_209 ⟨Nat.le_of_ble_eq_true rfl, Nat.le_of_ble_eq_true rfl⟩) hw hA (fun p7 H locs hp7 hw => ?_) | refine px_callv (pr := []) (px_runV (As := [.int z4, .int 0]) (rest := []) S (c_Txp_poke l D cs h r g hp f_191 a_191 z4 0  (show TxOk (f_191 4) (f_191 5) (f_191 8) (f_191 9) (f_191 17) (f_191 21) (a_191 2) from ⟨lk, ⟨by first | exact i2 | omega, by first | exact i3 | omega⟩, ⟨by first | exact i4 | omega, by first | exact i5 | omega⟩, ⟨by first | exact i6 | omega, by first | exact i7 | omega⟩, by first | exact i8 | omega, ⟨by first | exact i9 | omega, by first | exact i11 | omega⟩, by first | exact i10 | omega, hrt⟩) _) hT (pr := []) (pcs := [wd_Txp cs h r (fun k => if k = 3 then (some hp) else none) f_191 a_191 g]) hw px_X.tt (px_recv hT hw 0 0 rfl rfl rfl) m8_129 m8_126 m8_128 ms_5_13 m1_35 q_Txp_poke ⟨Nat.le_of_ble_eq_true rfl, Nat.le_of_ble_eq_true rfl⟩ hl.1 rfl (Nat.le_of_ble_eq_true rfl) d_Txp_compute_209 ⟨Nat.le_of_ble_eq_true rfl, Nat.le_of_ble_eq_true rfl⟩) hw hA (fun p7 H locs hp7 hw => ?_)
        obtain ⟨f5, a6, rfl, h15, e9, e10, e11, e12, e13, e14⟩ := hp7
        obtain ⟨lk, ⟨i2, i3⟩, ⟨i4, i5⟩, ⟨i6, i7⟩, i8, ⟨i9, i11⟩, i10, hrt⟩ := h15
        have e9 : (f5 9).toInt = (f_191 9).toInt := e9
        have e10 : (f5 17).toInt = (f_191 17).toInt := e10
        have e11 : (f5 21).toInt = (f_191 21).toInt := e11
        have e12 : (f5 15).toInt = (f_191 15).toInt := e12
        have e13 : (f5 20).toInt = (f_191 20).toInt := e13
        have e14 : (f5 4).toInt = (f_191 4).toInt := e14
        obtain ⟨z16, ez16⟩ : ∃ y : Int32, y = x191_7 + 1 := ⟨_, rfl⟩
        have tz16 : z16.toInt = (x191_7.toInt + 1 + 2147483648) % 4294967296 - 2147483648 := by rw [ez16]; exact i_add x191_7 1
        have lz16 := Int32.le_toInt z16
        have uz16 := Int32.toInt_lt z16
        try replace tz16 : z16.toInt = x191_7.toInt + 1 := by omega
        refine lv_iinc (v := z16) (lv' := [(7, .int z16), (0, .ref h), (1, .int p0), (2, .int p1), (3, .int p2), (4, .int p3), (5, .int p4)]) S.x S.b d_Txp_compute_212 hl (k := 6) rfl (by rw [ez16]; rfl) (by decide) rfl (fun ls hl => ?_)
        refine lv_goto (tgt := 191) S.x S.b d_Txp_compute_215 (by decide) ?_
        first | exact ih f5 a6 z16 _ _ ls (show TxOk (f5 4) (f5 5) (f5 8) (f5 9) (f5 17) (f5 21) (a6 2) from ⟨lk, ⟨i2, i3⟩, ⟨i4, i5⟩, ⟨i6, i7⟩, i8, ⟨i9, i11⟩, i10, hrt⟩) (show (f5 9).toInt = (f 9).toInt from (oz_1687f4cc65 k191_0 e9)) (show (f5 17).toInt = (f 17).toInt from (oz_1687f4cc65 k191_1 e10)) (show (f5 21).toInt = 0 from (oz_4193540c58 e11 k191_2)) (show (f5 15).toInt = (f 15).toInt from (oz_1687f4cc65 k191_3 e12)) (show (f5 20).toInt = (f 20).toInt from (oz_1687f4cc65 k191_4 e13)) (show 0 ≤ z16.toInt from (oz_ae613611c0 tz16 k191_5)) (show p3.toInt-z16.toInt+4294967297 < (n : Int) from by first | with_reducible rfl | with_reducible assumption | omega) hw (lv_sub hl [1, 2, 3, 4, 5, 6, 0] rfl) | exact ih f5 a6 z16 _ _ ls (show TxOk (f5 4) (f5 5) (f5 8) (f5 9) (f5 17) (f5 21) (a6 2) from ⟨lk, ⟨by first | exact i2 | omega, by first | exact i3 | omega⟩, ⟨by first | exact i4 | omega, by first | exact i5 | omega⟩, ⟨by first | exact i6 | omega, by first | exact i7 | omega⟩, by first | exact i8 | omega, ⟨by first | exact i9 | omega, by first | exact i11 | omega⟩, by first | exact i10 | omega, hrt⟩) (show (f5 9).toInt = (f 9).toInt from by first | exact oz_1687f4cc65 k191_0 e9 | omega) (show (f5 17).toInt = (f 17).toInt from by first | exact oz_1687f4cc65 k191_1 e10 | omega) (show (f5 21).toInt = 0 from by first | exact oz_4193540c58 e11 k191_2 | omega) (show (f5 15).toInt = (f 15).toInt from by first | exact oz_1687f4cc65 k191_3 e12 | omega) (show (f5 20).toInt = (f 20).toInt from by first | exact oz_1687f4cc65 k191_4 e13 | omega) (show 0 ≤ z16.toInt from by first | exact oz_ae613611c0 tz16 k191_5 | omega) (show p3.toInt-z16.toInt+4294967297 < (n : Int) from by first | with_reducible rfl | with_reducible assumption | omega) hw (lv_sub hl [1, 2, 3, 4, 5, 6, 0] rfl)
  refine lv_iload_n S.x S.b d_Txp_compute_0 rfl (lv_at hl 1 rfl) ?_
  refine px_tableK S (dt := 221) [(68, [1]), (221, [2, 3, 4, 5]), (76, [6]), (84, [7]), (92, [8]), (107, [9]), (126, [10]), (141, [11]), (168, [12]), (188, [13])] d_Txp_compute_1 (by decide +kernel) (by decide) (by decide +kernel) ?_ ?_
  ·
    refine lv_aload_n S.x S.b d_Txp_compute_221 rfl (lv_at hl 0 rfl) ?_
    refine lv_iload_n S.x S.b d_Txp_compute_222 rfl (lv_at hl 3 rfl) ?_
    refine lv_aload_n S.x S.b d_Txp_compute_223 rfl (lv_at hl 0 rfl) ?_
    refine lv_iload_n S.x S.b d_Txp_compute_224 rfl (lv_at hl 3 rfl) ?_
    refine lv_iload S.x S.b d_Txp_compute_225 (lv_at hl 4 rfl) ?_
    first | refine px_calli (pr := []) (px_runV (As := [.int p2, .int p3]) (rest := [.int p2, .ref h]) S (c_Txp_rowStart l D cs h r g hp f a p2 p3  (show TxOk (f 4) (f 5) (f 8) (f 9) (f 17) (f 21) (a 2) from ⟨lk, ⟨i2, i3⟩, ⟨i4, i5⟩, ⟨i6, i7⟩, i8, ⟨i9, i11⟩, i10, hrt⟩) _) hT (pr := []) (pcs := [wd_Txp cs h r (fun k => if k = 3 then (some hp) else none) f a g]) hw px_X.tt (px_recv hT hw 0 0 rfl rfl rfl) m9_47 m9_44 m9_46 ms_7_7 m1_35 q_Txp_rowStart ⟨Nat.le_of_ble_eq_true rfl, Nat.le_of_ble_eq_true rfl⟩ hl.1 rfl (Nat.le_of_ble_eq_true rfl) d_Txp_compute_227 ⟨Nat.le_of_ble_eq_true rfl, Nat.le_of_ble_eq_true rfl⟩) hw hA (fun v18 p17 H locs hp17 hw => ?_) | refine px_calli (pr := []) (px_runV (As := [.int p2, .int p3]) (rest := [.int p2, .ref h]) S (c_Txp_rowStart l D cs h r g hp f a p2 p3  (show TxOk (f 4) (f 5) (f 8) (f 9) (f 17) (f 21) (a 2) from ⟨lk, ⟨by first | exact i2 | omega, by first | exact i3 | omega⟩, ⟨by first | exact i4 | omega, by first | exact i5 | omega⟩, ⟨by first | exact i6 | omega, by first | exact i7 | omega⟩, by first | exact i8 | omega, ⟨by first | exact i9 | omega, by first | exact i11 | omega⟩, by first | exact i10 | omega, hrt⟩) _) hT (pr := []) (pcs := [wd_Txp cs h r (fun k => if k = 3 then (some hp) else none) f a g]) hw px_X.tt (px_recv hT hw 0 0 rfl rfl rfl) m9_47 m9_44 m9_46 ms_7_7 m1_35 q_Txp_rowStart ⟨Nat.le_of_ble_eq_true rfl, Nat.le_of_ble_eq_true rfl⟩ hl.1 rfl (Nat.le_of_ble_eq_true rfl) d_Txp_compute_227 ⟨Nat.le_of_ble_eq_true rfl, Nat.le_of_ble_eq_true rfl⟩) hw hA (fun v18 p17 H locs hp17 hw => ?_)
    subst hp17
    have lv18 := Int32.le_toInt v18
    have uv18 := Int32.toInt_lt v18
    refine lv_iload_n S.x S.b d_Txp_compute_230 rfl (lv_at hl 2 rfl) ?_
    first | refine px_callv (pr := []) (px_runV (As := [.int p2, .int v18, .int p1]) (rest := []) S (c_Txp_lookUp l D cs h r g hp f a p2 v18 p1  (show TxOk (f 4) (f 5) (f 8) (f 9) (f 17) (f 21) (a 2) from ⟨lk, ⟨i2, i3⟩, ⟨i4, i5⟩, ⟨i6, i7⟩, i8, ⟨i9, i11⟩, i10, hrt⟩) _) hT (pr := []) (pcs := [wd_Txp cs h r (fun k => if k = 3 then (some hp) else none) f a g]) hw px_X.tt (px_recv hT hw 0 0 rfl rfl rfl) m9_51 m9_48 m9_50 ms_7_8 m1_35 q_Txp_lookUp ⟨Nat.le_of_ble_eq_true rfl, Nat.le_of_ble_eq_true rfl⟩ hl.1 rfl (Nat.le_of_ble_eq_true rfl) d_Txp_compute_231 ⟨Nat.le_of_ble_eq_true rfl, Nat.le_of_ble_eq_true rfl⟩) hw hA (fun p21 H locs hp21 hw => ?_) | refine px_callv (pr := []) (px_runV (As := [.int p2, .int v18, .int p1]) (rest := []) S (c_Txp_lookUp l D cs h r g hp f a p2 v18 p1  (show TxOk (f 4) (f 5) (f 8) (f 9) (f 17) (f 21) (a 2) from ⟨lk, ⟨by first | exact i2 | omega, by first | exact i3 | omega⟩, ⟨by first | exact i4 | omega, by first | exact i5 | omega⟩, ⟨by first | exact i6 | omega, by first | exact i7 | omega⟩, by first | exact i8 | omega, ⟨by first | exact i9 | omega, by first | exact i11 | omega⟩, by first | exact i10 | omega, hrt⟩) _) hT (pr := []) (pcs := [wd_Txp cs h r (fun k => if k = 3 then (some hp) else none) f a g]) hw px_X.tt (px_recv hT hw 0 0 rfl rfl rfl) m9_51 m9_48 m9_50 ms_7_8 m1_35 q_Txp_lookUp ⟨Nat.le_of_ble_eq_true rfl, Nat.le_of_ble_eq_true rfl⟩ hl.1 rfl (Nat.le_of_ble_eq_true rfl) d_Txp_compute_231 ⟨Nat.le_of_ble_eq_true rfl, Nat.le_of_ble_eq_true rfl⟩) hw hA (fun p21 H locs hp21 hw => ?_)
    obtain ⟨f19, a20, rfl, h29, e23, e24, e25, e26, e27, e28⟩ := hp21
    obtain ⟨lk, ⟨i2, i3⟩, ⟨i4, i5⟩, ⟨i6, i7⟩, i8, ⟨i9, i11⟩, i10, hrt⟩ := h29
    have e23 : (f19 9).toInt = (f 9).toInt := e23
    have e24 : (f19 17).toInt = (f 17).toInt := e24
    have e25 : (f19 21).toInt = (f 21).toInt := e25
    have e26 : (f19 15).toInt = (f 15).toInt := e26
    have e27 : (f19 20).toInt = (f 20).toInt := e27
    have e28 : (f19 4).toInt = (f 4).toInt := e28
    refine lv_aload_n S.x S.b d_Txp_compute_234 rfl (lv_at hl 0 rfl) ?_
    refine lv_iload_n S.x S.b d_Txp_compute_235 rfl (lv_at hl 3 rfl) ?_
    refine lv_iload S.x S.b d_Txp_compute_236 (lv_at hl 5 rfl) ?_
    first | refine px_calli (pr := []) (px_runV (As := [.int p2, .int p4]) (rest := []) S (c_Txp_keep l D cs h r g hp f19 a20 p2 p4  (show TxOk (f19 4) (f19 5) (f19 8) (f19 9) (f19 17) (f19 21) (a20 2) from ⟨lk, ⟨i2, i3⟩, ⟨i4, i5⟩, ⟨i6, i7⟩, i8, ⟨i9, i11⟩, i10, hrt⟩) _) hT (pr := []) (pcs := [wd_Txp cs h r (fun k => if k = 3 then (some hp) else none) f19 a20 g]) hw px_X.tt (px_recv hT hw 0 0 rfl rfl rfl) m9_59 m9_56 m9_58 ms_7_10 m1_35 q_Txp_keep ⟨Nat.le_of_ble_eq_true rfl, Nat.le_of_ble_eq_true rfl⟩ hl.1 rfl (Nat.le_of_ble_eq_true rfl) d_Txp_compute_238 ⟨Nat.le_of_ble_eq_true rfl, Nat.le_of_ble_eq_true rfl⟩) hw hA (fun v33 p32 H locs hp32 hw => ?_) | refine px_calli (pr := []) (px_runV (As := [.int p2, .int p4]) (rest := []) S (c_Txp_keep l D cs h r g hp f19 a20 p2 p4  (show TxOk (f19 4) (f19 5) (f19 8) (f19 9) (f19 17) (f19 21) (a20 2) from ⟨lk, ⟨by first | exact i2 | omega, by first | exact i3 | omega⟩, ⟨by first | exact i4 | omega, by first | exact i5 | omega⟩, ⟨by first | exact i6 | omega, by first | exact i7 | omega⟩, by first | exact i8 | omega, ⟨by first | exact i9 | omega, by first | exact i11 | omega⟩, by first | exact i10 | omega, hrt⟩) _) hT (pr := []) (pcs := [wd_Txp cs h r (fun k => if k = 3 then (some hp) else none) f19 a20 g]) hw px_X.tt (px_recv hT hw 0 0 rfl rfl rfl) m9_59 m9_56 m9_58 ms_7_10 m1_35 q_Txp_keep ⟨Nat.le_of_ble_eq_true rfl, Nat.le_of_ble_eq_true rfl⟩ hl.1 rfl (Nat.le_of_ble_eq_true rfl) d_Txp_compute_238 ⟨Nat.le_of_ble_eq_true rfl, Nat.le_of_ble_eq_true rfl⟩) hw hA (fun v33 p32 H locs hp32 hw => ?_)
    obtain ⟨f30, a31, rfl, h40, e34, e35, e36, e37, e38, e39⟩ := hp32
    obtain ⟨lk, ⟨i2, i3⟩, ⟨i4, i5⟩, ⟨i6, i7⟩, i8, ⟨i9, i11⟩, i10, hrt⟩ := h40
    have e34 : (f30 9).toInt = (f19 9).toInt := e34
    have e35 : (f30 17).toInt = (f19 17).toInt := e35
    have e36 : (f30 21).toInt = (f19 21).toInt := e36
    have e37 : (f30 15).toInt = (f19 15).toInt := e37
    have e38 : (f30 20).toInt = (f19 20).toInt := e38
    have e39 : (f30 4).toInt = (f19 4).toInt := e39
    have lv33 := Int32.le_toInt v33
    have uv33 := Int32.toInt_lt v33
    refine lv_pop S.x S.b d_Txp_compute_241 rfl ?_
    first | exact px_vret S hr hlk hAe hw (Nat.le_of_ble_eq_true rfl) (Nat.le_of_ble_eq_true rfl) (⟨f30, a31, rfl, (show TxOk (f30 4) (f30 5) (f30 8) (f30 9) (f30 17) (f30 21) (a31 2) from ⟨lk, ⟨i2, i3⟩, ⟨i4, i5⟩, ⟨i6, i7⟩, i8, ⟨i9, i11⟩, i10, hrt⟩), (show (f30 9).toInt = (f 9).toInt from (oz_1687f4cc65 e23 e34)), (show (f30 17).toInt = (f 17).toInt from (oz_1687f4cc65 e24 e35)), (show (f30 21).toInt = 0 from (oz_06db467756 e36 e25 g0 i9)), (show (f30 15).toInt = (f 15).toInt from (oz_1687f4cc65 e26 e37)), (show (f30 20).toInt = (f 20).toInt from (oz_1687f4cc65 e27 e38))⟩) d_Txp_compute_242 | exact px_vret S hr hlk hAe hw (Nat.le_of_ble_eq_true rfl) (Nat.le_of_ble_eq_true rfl) (⟨f30, a31, rfl, (show TxOk (f30 4) (f30 5) (f30 8) (f30 9) (f30 17) (f30 21) (a31 2) from ⟨lk, ⟨by first | exact i2 | omega, by first | exact i3 | omega⟩, ⟨by first | exact i4 | omega, by first | exact i5 | omega⟩, ⟨by first | exact i6 | omega, by first | exact i7 | omega⟩, by first | exact i8 | omega, ⟨by first | exact i9 | omega, by first | exact i11 | omega⟩, by first | exact i10 | omega, hrt⟩), (show (f30 9).toInt = (f 9).toInt from by first | exact oz_1687f4cc65 e23 e34 | omega), (show (f30 17).toInt = (f 17).toInt from by first | exact oz_1687f4cc65 e24 e35 | omega), (show (f30 21).toInt = 0 from by first | exact oz_06db467756 e36 e25 g0 i9 | omega), (show (f30 15).toInt = (f 15).toInt from by first | exact oz_1687f4cc65 e26 e37 | omega), (show (f30 20).toInt = (f 20).toInt from by first | exact oz_1687f4cc65 e27 e38 | omega)⟩) d_Txp_compute_242
  · refine List.forall_mem_cons.mpr ⟨fun c41 => ?_, List.forall_mem_cons.mpr ⟨fun c41 => ?_, List.forall_mem_cons.mpr ⟨fun c41 => ?_, List.forall_mem_cons.mpr ⟨fun c41 => ?_, List.forall_mem_cons.mpr ⟨fun c41 => ?_, List.forall_mem_cons.mpr ⟨fun c41 => ?_, List.forall_mem_cons.mpr ⟨fun c41 => ?_, List.forall_mem_cons.mpr ⟨fun c41 => ?_, List.forall_mem_cons.mpr ⟨fun c41 => ?_, List.forall_mem_cons.mpr ⟨fun c41 => ?_, fun _ h => absurd h List.not_mem_nil⟩⟩⟩⟩⟩⟩⟩⟩⟩⟩
    · simp only [List.mem_cons, List.not_mem_nil, or_false] at c41
      refine lv_aload_n S.x S.b d_Txp_compute_68 rfl (lv_at hl 0 rfl) ?_
      refine lv_iload_n S.x S.b d_Txp_compute_69 rfl (lv_at hl 3 rfl) ?_
      first | refine px_callv (pr := []) (px_runV (As := [.int p2]) (rest := []) S (c_Txp_push l D cs h r g hp f a p2  (show TxOk (f 4) (f 5) (f 8) (f 9) (f 17) (f 21) (a 2) from ⟨lk, ⟨i2, i3⟩, ⟨i4, i5⟩, ⟨i6, i7⟩, i8, ⟨i9, i11⟩, i10, hrt⟩) _) hT (pr := []) (pcs := [wd_Txp cs h r (fun k => if k = 3 then (some hp) else none) f a g]) hw px_X.tt (px_recv hT hw 0 0 rfl rfl rfl) m8_47 m8_44 m8_46 ms_5_6 m1_35 q_Txp_push ⟨Nat.le_of_ble_eq_true rfl, Nat.le_of_ble_eq_true rfl⟩ hl.1 rfl (Nat.le_of_ble_eq_true rfl) d_Txp_compute_70 ⟨Nat.le_of_ble_eq_true rfl, Nat.le_of_ble_eq_true rfl⟩) hw hA (fun p44 H locs hp44 hw => ?_) | refine px_callv (pr := []) (px_runV (As := [.int p2]) (rest := []) S (c_Txp_push l D cs h r g hp f a p2  (show TxOk (f 4) (f 5) (f 8) (f 9) (f 17) (f 21) (a 2) from ⟨lk, ⟨by first | exact i2 | omega, by first | exact i3 | omega⟩, ⟨by first | exact i4 | omega, by first | exact i5 | omega⟩, ⟨by first | exact i6 | omega, by first | exact i7 | omega⟩, by first | exact i8 | omega, ⟨by first | exact i9 | omega, by first | exact i11 | omega⟩, by first | exact i10 | omega, hrt⟩) _) hT (pr := []) (pcs := [wd_Txp cs h r (fun k => if k = 3 then (some hp) else none) f a g]) hw px_X.tt (px_recv hT hw 0 0 rfl rfl rfl) m8_47 m8_44 m8_46 ms_5_6 m1_35 q_Txp_push ⟨Nat.le_of_ble_eq_true rfl, Nat.le_of_ble_eq_true rfl⟩ hl.1 rfl (Nat.le_of_ble_eq_true rfl) d_Txp_compute_70 ⟨Nat.le_of_ble_eq_true rfl, Nat.le_of_ble_eq_true rfl⟩) hw hA (fun p44 H locs hp44 hw => ?_)
      obtain ⟨f42, a43, rfl, h52, e46, e47, e48, e49, e50, e51⟩ := hp44
      obtain ⟨lk, ⟨i2, i3⟩, ⟨i4, i5⟩, ⟨i6, i7⟩, i8, ⟨i9, i11⟩, i10, hrt⟩ := h52
      have e46 : (f42 9).toInt = (f 9).toInt := e46
      have e47 : (f42 17).toInt = (f 17).toInt := e47
      have e48 : (f42 21).toInt = (f 21).toInt := e48
      have e49 : (f42 15).toInt = (f 15).toInt := e49
      have e50 : (f42 20).toInt = (f 20).toInt := e50
      have e51 : (f42 4).toInt = (f 4).toInt := e51
      refine lv_goto (tgt := 242) S.x S.b d_Txp_compute_73 (by decide) ?_
      first | exact px_vret S hr hlk hAe hw (Nat.le_of_ble_eq_true rfl) (Nat.le_of_ble_eq_true rfl) (⟨f42, a43, rfl, (show TxOk (f42 4) (f42 5) (f42 8) (f42 9) (f42 17) (f42 21) (a43 2) from ⟨lk, ⟨i2, i3⟩, ⟨i4, i5⟩, ⟨i6, i7⟩, i8, ⟨i9, i11⟩, i10, hrt⟩), (show (f42 9).toInt = (f 9).toInt from e46), (show (f42 17).toInt = (f 17).toInt from e47), (show (f42 21).toInt = 0 from (oz_4193540c58 e48 g0)), (show (f42 15).toInt = (f 15).toInt from e49), (show (f42 20).toInt = (f 20).toInt from e50)⟩) d_Txp_compute_242 | exact px_vret S hr hlk hAe hw (Nat.le_of_ble_eq_true rfl) (Nat.le_of_ble_eq_true rfl) (⟨f42, a43, rfl, (show TxOk (f42 4) (f42 5) (f42 8) (f42 9) (f42 17) (f42 21) (a43 2) from ⟨lk, ⟨by first | exact i2 | omega, by first | exact i3 | omega⟩, ⟨by first | exact i4 | omega, by first | exact i5 | omega⟩, ⟨by first | exact i6 | omega, by first | exact i7 | omega⟩, by first | exact i8 | omega, ⟨by first | exact i9 | omega, by first | exact i11 | omega⟩, by first | exact i10 | omega, hrt⟩), (show (f42 9).toInt = (f 9).toInt from by first | exact e46 | omega), (show (f42 17).toInt = (f 17).toInt from by first | exact e47 | omega), (show (f42 21).toInt = 0 from by first | exact oz_4193540c58 e48 g0 | omega), (show (f42 15).toInt = (f 15).toInt from by first | exact e49 | omega), (show (f42 20).toInt = (f 20).toInt from by first | exact e50 | omega)⟩) d_Txp_compute_242
    · simp only [List.mem_cons, List.not_mem_nil, or_false] at c41
      refine lv_aload_n S.x S.b d_Txp_compute_221 rfl (lv_at hl 0 rfl) ?_
      refine lv_iload_n S.x S.b d_Txp_compute_222 rfl (lv_at hl 3 rfl) ?_
      refine lv_aload_n S.x S.b d_Txp_compute_223 rfl (lv_at hl 0 rfl) ?_
      refine lv_iload_n S.x S.b d_Txp_compute_224 rfl (lv_at hl 3 rfl) ?_
      refine lv_iload S.x S.b d_Txp_compute_225 (lv_at hl 4 rfl) ?_
      first | refine px_calli (pr := []) (px_runV (As := [.int p2, .int p3]) (rest := [.int p2, .ref h]) S (c_Txp_rowStart l D cs h r g hp f a p2 p3  (show TxOk (f 4) (f 5) (f 8) (f 9) (f 17) (f 21) (a 2) from ⟨lk, ⟨i2, i3⟩, ⟨i4, i5⟩, ⟨i6, i7⟩, i8, ⟨i9, i11⟩, i10, hrt⟩) _) hT (pr := []) (pcs := [wd_Txp cs h r (fun k => if k = 3 then (some hp) else none) f a g]) hw px_X.tt (px_recv hT hw 0 0 rfl rfl rfl) m9_47 m9_44 m9_46 ms_7_7 m1_35 q_Txp_rowStart ⟨Nat.le_of_ble_eq_true rfl, Nat.le_of_ble_eq_true rfl⟩ hl.1 rfl (Nat.le_of_ble_eq_true rfl) d_Txp_compute_227 ⟨Nat.le_of_ble_eq_true rfl, Nat.le_of_ble_eq_true rfl⟩) hw hA (fun v54 p53 H locs hp53 hw => ?_) | refine px_calli (pr := []) (px_runV (As := [.int p2, .int p3]) (rest := [.int p2, .ref h]) S (c_Txp_rowStart l D cs h r g hp f a p2 p3  (show TxOk (f 4) (f 5) (f 8) (f 9) (f 17) (f 21) (a 2) from ⟨lk, ⟨by first | exact i2 | omega, by first | exact i3 | omega⟩, ⟨by first | exact i4 | omega, by first | exact i5 | omega⟩, ⟨by first | exact i6 | omega, by first | exact i7 | omega⟩, by first | exact i8 | omega, ⟨by first | exact i9 | omega, by first | exact i11 | omega⟩, by first | exact i10 | omega, hrt⟩) _) hT (pr := []) (pcs := [wd_Txp cs h r (fun k => if k = 3 then (some hp) else none) f a g]) hw px_X.tt (px_recv hT hw 0 0 rfl rfl rfl) m9_47 m9_44 m9_46 ms_7_7 m1_35 q_Txp_rowStart ⟨Nat.le_of_ble_eq_true rfl, Nat.le_of_ble_eq_true rfl⟩ hl.1 rfl (Nat.le_of_ble_eq_true rfl) d_Txp_compute_227 ⟨Nat.le_of_ble_eq_true rfl, Nat.le_of_ble_eq_true rfl⟩) hw hA (fun v54 p53 H locs hp53 hw => ?_)
      subst hp53
      have lv54 := Int32.le_toInt v54
      have uv54 := Int32.toInt_lt v54
      refine lv_iload_n S.x S.b d_Txp_compute_230 rfl (lv_at hl 2 rfl) ?_
      first | refine px_callv (pr := []) (px_runV (As := [.int p2, .int v54, .int p1]) (rest := []) S (c_Txp_lookUp l D cs h r g hp f a p2 v54 p1  (show TxOk (f 4) (f 5) (f 8) (f 9) (f 17) (f 21) (a 2) from ⟨lk, ⟨i2, i3⟩, ⟨i4, i5⟩, ⟨i6, i7⟩, i8, ⟨i9, i11⟩, i10, hrt⟩) _) hT (pr := []) (pcs := [wd_Txp cs h r (fun k => if k = 3 then (some hp) else none) f a g]) hw px_X.tt (px_recv hT hw 0 0 rfl rfl rfl) m9_51 m9_48 m9_50 ms_7_8 m1_35 q_Txp_lookUp ⟨Nat.le_of_ble_eq_true rfl, Nat.le_of_ble_eq_true rfl⟩ hl.1 rfl (Nat.le_of_ble_eq_true rfl) d_Txp_compute_231 ⟨Nat.le_of_ble_eq_true rfl, Nat.le_of_ble_eq_true rfl⟩) hw hA (fun p57 H locs hp57 hw => ?_) | refine px_callv (pr := []) (px_runV (As := [.int p2, .int v54, .int p1]) (rest := []) S (c_Txp_lookUp l D cs h r g hp f a p2 v54 p1  (show TxOk (f 4) (f 5) (f 8) (f 9) (f 17) (f 21) (a 2) from ⟨lk, ⟨by first | exact i2 | omega, by first | exact i3 | omega⟩, ⟨by first | exact i4 | omega, by first | exact i5 | omega⟩, ⟨by first | exact i6 | omega, by first | exact i7 | omega⟩, by first | exact i8 | omega, ⟨by first | exact i9 | omega, by first | exact i11 | omega⟩, by first | exact i10 | omega, hrt⟩) _) hT (pr := []) (pcs := [wd_Txp cs h r (fun k => if k = 3 then (some hp) else none) f a g]) hw px_X.tt (px_recv hT hw 0 0 rfl rfl rfl) m9_51 m9_48 m9_50 ms_7_8 m1_35 q_Txp_lookUp ⟨Nat.le_of_ble_eq_true rfl, Nat.le_of_ble_eq_true rfl⟩ hl.1 rfl (Nat.le_of_ble_eq_true rfl) d_Txp_compute_231 ⟨Nat.le_of_ble_eq_true rfl, Nat.le_of_ble_eq_true rfl⟩) hw hA (fun p57 H locs hp57 hw => ?_)
      obtain ⟨f55, a56, rfl, h65, e59, e60, e61, e62, e63, e64⟩ := hp57
      obtain ⟨lk, ⟨i2, i3⟩, ⟨i4, i5⟩, ⟨i6, i7⟩, i8, ⟨i9, i11⟩, i10, hrt⟩ := h65
      have e59 : (f55 9).toInt = (f 9).toInt := e59
      have e60 : (f55 17).toInt = (f 17).toInt := e60
      have e61 : (f55 21).toInt = (f 21).toInt := e61
      have e62 : (f55 15).toInt = (f 15).toInt := e62
      have e63 : (f55 20).toInt = (f 20).toInt := e63
      have e64 : (f55 4).toInt = (f 4).toInt := e64
      refine lv_aload_n S.x S.b d_Txp_compute_234 rfl (lv_at hl 0 rfl) ?_
      refine lv_iload_n S.x S.b d_Txp_compute_235 rfl (lv_at hl 3 rfl) ?_
      refine lv_iload S.x S.b d_Txp_compute_236 (lv_at hl 5 rfl) ?_
      first | refine px_calli (pr := []) (px_runV (As := [.int p2, .int p4]) (rest := []) S (c_Txp_keep l D cs h r g hp f55 a56 p2 p4  (show TxOk (f55 4) (f55 5) (f55 8) (f55 9) (f55 17) (f55 21) (a56 2) from ⟨lk, ⟨i2, i3⟩, ⟨i4, i5⟩, ⟨i6, i7⟩, i8, ⟨i9, i11⟩, i10, hrt⟩) _) hT (pr := []) (pcs := [wd_Txp cs h r (fun k => if k = 3 then (some hp) else none) f55 a56 g]) hw px_X.tt (px_recv hT hw 0 0 rfl rfl rfl) m9_59 m9_56 m9_58 ms_7_10 m1_35 q_Txp_keep ⟨Nat.le_of_ble_eq_true rfl, Nat.le_of_ble_eq_true rfl⟩ hl.1 rfl (Nat.le_of_ble_eq_true rfl) d_Txp_compute_238 ⟨Nat.le_of_ble_eq_true rfl, Nat.le_of_ble_eq_true rfl⟩) hw hA (fun v69 p68 H locs hp68 hw => ?_) | refine px_calli (pr := []) (px_runV (As := [.int p2, .int p4]) (rest := []) S (c_Txp_keep l D cs h r g hp f55 a56 p2 p4  (show TxOk (f55 4) (f55 5) (f55 8) (f55 9) (f55 17) (f55 21) (a56 2) from ⟨lk, ⟨by first | exact i2 | omega, by first | exact i3 | omega⟩, ⟨by first | exact i4 | omega, by first | exact i5 | omega⟩, ⟨by first | exact i6 | omega, by first | exact i7 | omega⟩, by first | exact i8 | omega, ⟨by first | exact i9 | omega, by first | exact i11 | omega⟩, by first | exact i10 | omega, hrt⟩) _) hT (pr := []) (pcs := [wd_Txp cs h r (fun k => if k = 3 then (some hp) else none) f55 a56 g]) hw px_X.tt (px_recv hT hw 0 0 rfl rfl rfl) m9_59 m9_56 m9_58 ms_7_10 m1_35 q_Txp_keep ⟨Nat.le_of_ble_eq_true rfl, Nat.le_of_ble_eq_true rfl⟩ hl.1 rfl (Nat.le_of_ble_eq_true rfl) d_Txp_compute_238 ⟨Nat.le_of_ble_eq_true rfl, Nat.le_of_ble_eq_true rfl⟩) hw hA (fun v69 p68 H locs hp68 hw => ?_)
      obtain ⟨f66, a67, rfl, h76, e70, e71, e72, e73, e74, e75⟩ := hp68
      obtain ⟨lk, ⟨i2, i3⟩, ⟨i4, i5⟩, ⟨i6, i7⟩, i8, ⟨i9, i11⟩, i10, hrt⟩ := h76
      have e70 : (f66 9).toInt = (f55 9).toInt := e70
      have e71 : (f66 17).toInt = (f55 17).toInt := e71
      have e72 : (f66 21).toInt = (f55 21).toInt := e72
      have e73 : (f66 15).toInt = (f55 15).toInt := e73
      have e74 : (f66 20).toInt = (f55 20).toInt := e74
      have e75 : (f66 4).toInt = (f55 4).toInt := e75
      have lv69 := Int32.le_toInt v69
      have uv69 := Int32.toInt_lt v69
      refine lv_pop S.x S.b d_Txp_compute_241 rfl ?_
      first | exact px_vret S hr hlk hAe hw (Nat.le_of_ble_eq_true rfl) (Nat.le_of_ble_eq_true rfl) (⟨f66, a67, rfl, (show TxOk (f66 4) (f66 5) (f66 8) (f66 9) (f66 17) (f66 21) (a67 2) from ⟨lk, ⟨i2, i3⟩, ⟨i4, i5⟩, ⟨i6, i7⟩, i8, ⟨i9, i11⟩, i10, hrt⟩), (show (f66 9).toInt = (f 9).toInt from (oz_1687f4cc65 e59 e70)), (show (f66 17).toInt = (f 17).toInt from (oz_1687f4cc65 e60 e71)), (show (f66 21).toInt = 0 from (oz_06db467756 e72 e61 g0 i9)), (show (f66 15).toInt = (f 15).toInt from (oz_1687f4cc65 e62 e73)), (show (f66 20).toInt = (f 20).toInt from (oz_1687f4cc65 e63 e74))⟩) d_Txp_compute_242 | exact px_vret S hr hlk hAe hw (Nat.le_of_ble_eq_true rfl) (Nat.le_of_ble_eq_true rfl) (⟨f66, a67, rfl, (show TxOk (f66 4) (f66 5) (f66 8) (f66 9) (f66 17) (f66 21) (a67 2) from ⟨lk, ⟨by first | exact i2 | omega, by first | exact i3 | omega⟩, ⟨by first | exact i4 | omega, by first | exact i5 | omega⟩, ⟨by first | exact i6 | omega, by first | exact i7 | omega⟩, by first | exact i8 | omega, ⟨by first | exact i9 | omega, by first | exact i11 | omega⟩, by first | exact i10 | omega, hrt⟩), (show (f66 9).toInt = (f 9).toInt from by first | exact oz_1687f4cc65 e59 e70 | omega), (show (f66 17).toInt = (f 17).toInt from by first | exact oz_1687f4cc65 e60 e71 | omega), (show (f66 21).toInt = 0 from by first | exact oz_06db467756 e72 e61 g0 i9 | omega), (show (f66 15).toInt = (f 15).toInt from by first | exact oz_1687f4cc65 e62 e73 | omega), (show (f66 20).toInt = (f 20).toInt from by first | exact oz_1687f4cc65 e63 e74 | omega)⟩) d_Txp_compute_242
    · simp only [List.mem_cons, List.not_mem_nil, or_false] at c41
      refine lv_aload_n S.x S.b d_Txp_compute_76 rfl (lv_at hl 0 rfl) ?_
      first | refine px_calli (pr := []) (px_runV (As := []) (rest := []) S (c_Txp_pop l D cs h r g hp f a   (show TxOk (f 4) (f 5) (f 8) (f 9) (f 17) (f 21) (a 2) from ⟨lk, ⟨i2, i3⟩, ⟨i4, i5⟩, ⟨i6, i7⟩, i8, ⟨i9, i11⟩, i10, hrt⟩) _) hT (pr := []) (pcs := [wd_Txp cs h r (fun k => if k = 3 then (some hp) else none) f a g]) hw px_X.tt (px_recv hT hw 0 0 rfl rfl rfl) m9_15 m9_12 m9_14 ms_7_0 m1_35 q_Txp_pop ⟨Nat.le_of_ble_eq_true rfl, Nat.le_of_ble_eq_true rfl⟩ hl.1 rfl (Nat.le_of_ble_eq_true rfl) d_Txp_compute_77 ⟨Nat.le_of_ble_eq_true rfl, Nat.le_of_ble_eq_true rfl⟩) hw hA (fun v80 p79 H locs hp79 hw => ?_) | refine px_calli (pr := []) (px_runV (As := []) (rest := []) S (c_Txp_pop l D cs h r g hp f a   (show TxOk (f 4) (f 5) (f 8) (f 9) (f 17) (f 21) (a 2) from ⟨lk, ⟨by first | exact i2 | omega, by first | exact i3 | omega⟩, ⟨by first | exact i4 | omega, by first | exact i5 | omega⟩, ⟨by first | exact i6 | omega, by first | exact i7 | omega⟩, by first | exact i8 | omega, ⟨by first | exact i9 | omega, by first | exact i11 | omega⟩, by first | exact i10 | omega, hrt⟩) _) hT (pr := []) (pcs := [wd_Txp cs h r (fun k => if k = 3 then (some hp) else none) f a g]) hw px_X.tt (px_recv hT hw 0 0 rfl rfl rfl) m9_15 m9_12 m9_14 ms_7_0 m1_35 q_Txp_pop ⟨Nat.le_of_ble_eq_true rfl, Nat.le_of_ble_eq_true rfl⟩ hl.1 rfl (Nat.le_of_ble_eq_true rfl) d_Txp_compute_77 ⟨Nat.le_of_ble_eq_true rfl, Nat.le_of_ble_eq_true rfl⟩) hw hA (fun v80 p79 H locs hp79 hw => ?_)
      obtain ⟨f77, a78, rfl, h87, e81, e82, e83, e84, e85, e86⟩ := hp79
      obtain ⟨lk, ⟨i2, i3⟩, ⟨i4, i5⟩, ⟨i6, i7⟩, i8, ⟨i9, i11⟩, i10, hrt⟩ := h87
      have e81 : (f77 9).toInt = (f 9).toInt := e81
      have e82 : (f77 17).toInt = (f 17).toInt := e82
      have e83 : (f77 21).toInt = (f 21).toInt := e83
      have e84 : (f77 15).toInt = (f 15).toInt := e84
      have e85 : (f77 20).toInt = (f 20).toInt := e85
      have e86 : (f77 4).toInt = (f 4).toInt := e86
      have lv80 := Int32.le_toInt v80
      have uv80 := Int32.toInt_lt v80
      refine lv_pop S.x S.b d_Txp_compute_80 rfl ?_
      refine lv_goto (tgt := 242) S.x S.b d_Txp_compute_81 (by decide) ?_
      first | exact px_vret S hr hlk hAe hw (Nat.le_of_ble_eq_true rfl) (Nat.le_of_ble_eq_true rfl) (⟨f77, a78, rfl, (show TxOk (f77 4) (f77 5) (f77 8) (f77 9) (f77 17) (f77 21) (a78 2) from ⟨lk, ⟨i2, i3⟩, ⟨i4, i5⟩, ⟨i6, i7⟩, i8, ⟨i9, i11⟩, i10, hrt⟩), (show (f77 9).toInt = (f 9).toInt from e81), (show (f77 17).toInt = (f 17).toInt from e82), (show (f77 21).toInt = 0 from (oz_4193540c58 e83 g0)), (show (f77 15).toInt = (f 15).toInt from e84), (show (f77 20).toInt = (f 20).toInt from e85)⟩) d_Txp_compute_242 | exact px_vret S hr hlk hAe hw (Nat.le_of_ble_eq_true rfl) (Nat.le_of_ble_eq_true rfl) (⟨f77, a78, rfl, (show TxOk (f77 4) (f77 5) (f77 8) (f77 9) (f77 17) (f77 21) (a78 2) from ⟨lk, ⟨by first | exact i2 | omega, by first | exact i3 | omega⟩, ⟨by first | exact i4 | omega, by first | exact i5 | omega⟩, ⟨by first | exact i6 | omega, by first | exact i7 | omega⟩, by first | exact i8 | omega, ⟨by first | exact i9 | omega, by first | exact i11 | omega⟩, by first | exact i10 | omega, hrt⟩), (show (f77 9).toInt = (f 9).toInt from by first | exact e81 | omega), (show (f77 17).toInt = (f 17).toInt from by first | exact e82 | omega), (show (f77 21).toInt = 0 from by first | exact oz_4193540c58 e83 g0 | omega), (show (f77 15).toInt = (f 15).toInt from by first | exact e84 | omega), (show (f77 20).toInt = (f 20).toInt from by first | exact e85 | omega)⟩) d_Txp_compute_242
    · simp only [List.mem_cons, List.not_mem_nil, or_false] at c41
      refine lv_aload_n S.x S.b d_Txp_compute_84 rfl (lv_at hl 0 rfl) ?_
      refine lv_iload_n S.x S.b d_Txp_compute_85 rfl (lv_at hl 3 rfl) ?_
      first | refine px_callv (pr := []) (px_runV (As := [.int p2]) (rest := []) S (c_Txp_binary l D cs h r g hp f a p2  (show TxOk (f 4) (f 5) (f 8) (f 9) (f 17) (f 21) (a 2) from ⟨lk, ⟨i2, i3⟩, ⟨i4, i5⟩, ⟨i6, i7⟩, i8, ⟨i9, i11⟩, i10, hrt⟩) (show (f 21).toInt = 0 from g0) _) hT (pr := []) (pcs := [wd_Txp cs h r (fun k => if k = 3 then (some hp) else none) f a g]) hw px_X.tt (px_recv hT hw 0 0 rfl rfl rfl) m9_69 m9_66 m9_68 ms_7_12 m1_35 q_Txp_binary ⟨Nat.le_of_ble_eq_true rfl, Nat.le_of_ble_eq_true rfl⟩ hl.1 rfl (Nat.le_of_ble_eq_true rfl) d_Txp_compute_86 ⟨Nat.le_of_ble_eq_true rfl, Nat.le_of_ble_eq_true rfl⟩) hw hA (fun p90 H locs hp90 hw => ?_) | refine px_callv (pr := []) (px_runV (As := [.int p2]) (rest := []) S (c_Txp_binary l D cs h r g hp f a p2  (show TxOk (f 4) (f 5) (f 8) (f 9) (f 17) (f 21) (a 2) from ⟨lk, ⟨by first | exact i2 | omega, by first | exact i3 | omega⟩, ⟨by first | exact i4 | omega, by first | exact i5 | omega⟩, ⟨by first | exact i6 | omega, by first | exact i7 | omega⟩, by first | exact i8 | omega, ⟨by first | exact i9 | omega, by first | exact i11 | omega⟩, by first | exact i10 | omega, hrt⟩) (show (f 21).toInt = 0 from by first | exact g0 | omega) _) hT (pr := []) (pcs := [wd_Txp cs h r (fun k => if k = 3 then (some hp) else none) f a g]) hw px_X.tt (px_recv hT hw 0 0 rfl rfl rfl) m9_69 m9_66 m9_68 ms_7_12 m1_35 q_Txp_binary ⟨Nat.le_of_ble_eq_true rfl, Nat.le_of_ble_eq_true rfl⟩ hl.1 rfl (Nat.le_of_ble_eq_true rfl) d_Txp_compute_86 ⟨Nat.le_of_ble_eq_true rfl, Nat.le_of_ble_eq_true rfl⟩) hw hA (fun p90 H locs hp90 hw => ?_)
      obtain ⟨f88, a89, rfl, h97, e92, e93, e94, e95, e96⟩ := hp90
      obtain ⟨lk, ⟨i2, i3⟩, ⟨i4, i5⟩, ⟨i6, i7⟩, i8, ⟨i9, i11⟩, i10, hrt⟩ := h97
      have e92 : (f88 9).toInt = (f 9).toInt := e92
      have e93 : (f88 17).toInt = (f 17).toInt := e93
      have e94 : (f88 21).toInt = 0 := e94
      have e95 : (f88 15).toInt = (f 15).toInt := e95
      have e96 : (f88 20).toInt = (f 20).toInt := e96
      refine lv_goto (tgt := 242) S.x S.b d_Txp_compute_89 (by decide) ?_
      first | exact px_vret S hr hlk hAe hw (Nat.le_of_ble_eq_true rfl) (Nat.le_of_ble_eq_true rfl) (⟨f88, a89, rfl, (show TxOk (f88 4) (f88 5) (f88 8) (f88 9) (f88 17) (f88 21) (a89 2) from ⟨lk, ⟨i2, i3⟩, ⟨i4, i5⟩, ⟨i6, i7⟩, i8, ⟨i9, i11⟩, i10, hrt⟩), (show (f88 9).toInt = (f 9).toInt from e92), (show (f88 17).toInt = (f 17).toInt from e93), (show (f88 21).toInt = 0 from e94), (show (f88 15).toInt = (f 15).toInt from e95), (show (f88 20).toInt = (f 20).toInt from e96)⟩) d_Txp_compute_242 | exact px_vret S hr hlk hAe hw (Nat.le_of_ble_eq_true rfl) (Nat.le_of_ble_eq_true rfl) (⟨f88, a89, rfl, (show TxOk (f88 4) (f88 5) (f88 8) (f88 9) (f88 17) (f88 21) (a89 2) from ⟨lk, ⟨by first | exact i2 | omega, by first | exact i3 | omega⟩, ⟨by first | exact i4 | omega, by first | exact i5 | omega⟩, ⟨by first | exact i6 | omega, by first | exact i7 | omega⟩, by first | exact i8 | omega, ⟨by first | exact i9 | omega, by first | exact i11 | omega⟩, by first | exact i10 | omega, hrt⟩), (show (f88 9).toInt = (f 9).toInt from by first | exact e92 | omega), (show (f88 17).toInt = (f 17).toInt from by first | exact e93 | omega), (show (f88 21).toInt = 0 from by first | exact e94 | omega), (show (f88 15).toInt = (f 15).toInt from by first | exact e95 | omega), (show (f88 20).toInt = (f 20).toInt from by first | exact e96 | omega)⟩) d_Txp_compute_242
    · simp only [List.mem_cons, List.not_mem_nil, or_false] at c41
      refine lv_aload_n S.x S.b d_Txp_compute_92 rfl (lv_at hl 0 rfl) ?_
      refine lv_iload_n S.x S.b d_Txp_compute_93 rfl (lv_at hl 3 rfl) ?_
      refine lv_aload_n S.x S.b d_Txp_compute_94 rfl (lv_at hl 0 rfl) ?_
      first | refine px_calli (pr := []) (px_runV (As := []) (rest := [.int p2, .ref h]) S (c_Txp_pop l D cs h r g hp f a   (show TxOk (f 4) (f 5) (f 8) (f 9) (f 17) (f 21) (a 2) from ⟨lk, ⟨i2, i3⟩, ⟨i4, i5⟩, ⟨i6, i7⟩, i8, ⟨i9, i11⟩, i10, hrt⟩) _) hT (pr := []) (pcs := [wd_Txp cs h r (fun k => if k = 3 then (some hp) else none) f a g]) hw px_X.tt (px_recv hT hw 0 0 rfl rfl rfl) m9_15 m9_12 m9_14 ms_7_0 m1_35 q_Txp_pop ⟨Nat.le_of_ble_eq_true rfl, Nat.le_of_ble_eq_true rfl⟩ hl.1 rfl (Nat.le_of_ble_eq_true rfl) d_Txp_compute_95 ⟨Nat.le_of_ble_eq_true rfl, Nat.le_of_ble_eq_true rfl⟩) hw hA (fun v101 p100 H locs hp100 hw => ?_) | refine px_calli (pr := []) (px_runV (As := []) (rest := [.int p2, .ref h]) S (c_Txp_pop l D cs h r g hp f a   (show TxOk (f 4) (f 5) (f 8) (f 9) (f 17) (f 21) (a 2) from ⟨lk, ⟨by first | exact i2 | omega, by first | exact i3 | omega⟩, ⟨by first | exact i4 | omega, by first | exact i5 | omega⟩, ⟨by first | exact i6 | omega, by first | exact i7 | omega⟩, by first | exact i8 | omega, ⟨by first | exact i9 | omega, by first | exact i11 | omega⟩, by first | exact i10 | omega, hrt⟩) _) hT (pr := []) (pcs := [wd_Txp cs h r (fun k => if k = 3 then (some hp) else none) f a g]) hw px_X.tt (px_recv hT hw 0 0 rfl rfl rfl) m9_15 m9_12 m9_14 ms_7_0 m1_35 q_Txp_pop ⟨Nat.le_of_ble_eq_true rfl, Nat.le_of_ble_eq_true rfl⟩ hl.1 rfl (Nat.le_of_ble_eq_true rfl) d_Txp_compute_95 ⟨Nat.le_of_ble_eq_true rfl, Nat.le_of_ble_eq_true rfl⟩) hw hA (fun v101 p100 H locs hp100 hw => ?_)
      obtain ⟨f98, a99, rfl, h108, e102, e103, e104, e105, e106, e107⟩ := hp100
      obtain ⟨lk, ⟨i2, i3⟩, ⟨i4, i5⟩, ⟨i6, i7⟩, i8, ⟨i9, i11⟩, i10, hrt⟩ := h108
      have e102 : (f98 9).toInt = (f 9).toInt := e102
      have e103 : (f98 17).toInt = (f 17).toInt := e103
      have e104 : (f98 21).toInt = (f 21).toInt := e104
      have e105 : (f98 15).toInt = (f 15).toInt := e105
      have e106 : (f98 20).toInt = (f 20).toInt := e106
      have e107 : (f98 4).toInt = (f 4).toInt := e107
      have lv101 := Int32.le_toInt v101
      have uv101 := Int32.toInt_lt v101
      refine px_calli (pr := [wd_Txp cs h r (fun k => if k = 3 then (some hp) else none) f98 a99 g]) (px_runSN (As := [.int p2, .int v101]) (rest := [.ref h]) S (c_Hs_reckonUnary l D cs  p2 v101   _) hT (pr := [wd_Txp cs h r (fun k => if k = 3 then (some hp) else none) f98 a99 g]) (pcs := []) hw px_X.tt m4_192 m9_70n m4_191 m1_1 q_Hs_reckonUnary ⟨Nat.le_of_ble_eq_true rfl, Nat.le_of_ble_eq_true rfl⟩ hl.1 rfl (Nat.le_of_ble_eq_true rfl) d_Txp_compute_98 ⟨Nat.le_of_ble_eq_true rfl, Nat.le_of_ble_eq_true rfl⟩) hw hA (fun v110 p109 H locs hp109 hw => ?_)
      subst hp109
      have lv110 := Int32.le_toInt v110
      have uv110 := Int32.toInt_lt v110
      first | refine px_callv (pr := []) (px_runV (As := [.int v110]) (rest := []) S (c_Txp_push l D cs h r g hp f98 a99 v110  (show TxOk (f98 4) (f98 5) (f98 8) (f98 9) (f98 17) (f98 21) (a99 2) from ⟨lk, ⟨i2, i3⟩, ⟨i4, i5⟩, ⟨i6, i7⟩, i8, ⟨i9, i11⟩, i10, hrt⟩) _) hT (pr := []) (pcs := [wd_Txp cs h r (fun k => if k = 3 then (some hp) else none) f98 a99 g]) hw px_X.tt (px_recv hT hw 0 0 rfl rfl rfl) m8_47 m8_44 m8_46 ms_5_6 m1_35 q_Txp_push ⟨Nat.le_of_ble_eq_true rfl, Nat.le_of_ble_eq_true rfl⟩ hl.1 rfl (Nat.le_of_ble_eq_true rfl) d_Txp_compute_101 ⟨Nat.le_of_ble_eq_true rfl, Nat.le_of_ble_eq_true rfl⟩) hw hA (fun p113 H locs hp113 hw => ?_) | refine px_callv (pr := []) (px_runV (As := [.int v110]) (rest := []) S (c_Txp_push l D cs h r g hp f98 a99 v110  (show TxOk (f98 4) (f98 5) (f98 8) (f98 9) (f98 17) (f98 21) (a99 2) from ⟨lk, ⟨by first | exact i2 | omega, by first | exact i3 | omega⟩, ⟨by first | exact i4 | omega, by first | exact i5 | omega⟩, ⟨by first | exact i6 | omega, by first | exact i7 | omega⟩, by first | exact i8 | omega, ⟨by first | exact i9 | omega, by first | exact i11 | omega⟩, by first | exact i10 | omega, hrt⟩) _) hT (pr := []) (pcs := [wd_Txp cs h r (fun k => if k = 3 then (some hp) else none) f98 a99 g]) hw px_X.tt (px_recv hT hw 0 0 rfl rfl rfl) m8_47 m8_44 m8_46 ms_5_6 m1_35 q_Txp_push ⟨Nat.le_of_ble_eq_true rfl, Nat.le_of_ble_eq_true rfl⟩ hl.1 rfl (Nat.le_of_ble_eq_true rfl) d_Txp_compute_101 ⟨Nat.le_of_ble_eq_true rfl, Nat.le_of_ble_eq_true rfl⟩) hw hA (fun p113 H locs hp113 hw => ?_)
      obtain ⟨f111, a112, rfl, h121, e115, e116, e117, e118, e119, e120⟩ := hp113
      obtain ⟨lk, ⟨i2, i3⟩, ⟨i4, i5⟩, ⟨i6, i7⟩, i8, ⟨i9, i11⟩, i10, hrt⟩ := h121
      have e115 : (f111 9).toInt = (f98 9).toInt := e115
      have e116 : (f111 17).toInt = (f98 17).toInt := e116
      have e117 : (f111 21).toInt = (f98 21).toInt := e117
      have e118 : (f111 15).toInt = (f98 15).toInt := e118
      have e119 : (f111 20).toInt = (f98 20).toInt := e119
      have e120 : (f111 4).toInt = (f98 4).toInt := e120
      refine lv_goto (tgt := 242) S.x S.b d_Txp_compute_104 (by decide) ?_
      first | exact px_vret S hr hlk hAe hw (Nat.le_of_ble_eq_true rfl) (Nat.le_of_ble_eq_true rfl) (⟨f111, a112, rfl, (show TxOk (f111 4) (f111 5) (f111 8) (f111 9) (f111 17) (f111 21) (a112 2) from ⟨lk, ⟨i2, i3⟩, ⟨i4, i5⟩, ⟨i6, i7⟩, i8, ⟨i9, i11⟩, i10, hrt⟩), (show (f111 9).toInt = (f 9).toInt from (oz_1687f4cc65 e102 e115)), (show (f111 17).toInt = (f 17).toInt from (oz_1687f4cc65 e103 e116)), (show (f111 21).toInt = 0 from (oz_06db467756 e117 e104 g0 i9)), (show (f111 15).toInt = (f 15).toInt from (oz_1687f4cc65 e105 e118)), (show (f111 20).toInt = (f 20).toInt from (oz_1687f4cc65 e106 e119))⟩) d_Txp_compute_242 | exact px_vret S hr hlk hAe hw (Nat.le_of_ble_eq_true rfl) (Nat.le_of_ble_eq_true rfl) (⟨f111, a112, rfl, (show TxOk (f111 4) (f111 5) (f111 8) (f111 9) (f111 17) (f111 21) (a112 2) from ⟨lk, ⟨by first | exact i2 | omega, by first | exact i3 | omega⟩, ⟨by first | exact i4 | omega, by first | exact i5 | omega⟩, ⟨by first | exact i6 | omega, by first | exact i7 | omega⟩, by first | exact i8 | omega, ⟨by first | exact i9 | omega, by first | exact i11 | omega⟩, by first | exact i10 | omega, hrt⟩), (show (f111 9).toInt = (f 9).toInt from by first | exact oz_1687f4cc65 e102 e115 | omega), (show (f111 17).toInt = (f 17).toInt from by first | exact oz_1687f4cc65 e103 e116 | omega), (show (f111 21).toInt = 0 from by first | exact oz_06db467756 e117 e104 g0 i9 | omega), (show (f111 15).toInt = (f 15).toInt from by first | exact oz_1687f4cc65 e105 e118 | omega), (show (f111 20).toInt = (f 20).toInt from by first | exact oz_1687f4cc65 e106 e119 | omega)⟩) d_Txp_compute_242
    · simp only [List.mem_cons, List.not_mem_nil, or_false] at c41
      refine lv_aload_n S.x S.b d_Txp_compute_107 rfl (lv_at hl 0 rfl) ?_
      refine lv_aload_n S.x S.b d_Txp_compute_108 rfl (lv_at hl 0 rfl) ?_
      first | refine px_calli (pr := []) (px_runV (As := []) (rest := [.ref h]) S (c_Txp_pop l D cs h r g hp f a   (show TxOk (f 4) (f 5) (f 8) (f 9) (f 17) (f 21) (a 2) from ⟨lk, ⟨i2, i3⟩, ⟨i4, i5⟩, ⟨i6, i7⟩, i8, ⟨i9, i11⟩, i10, hrt⟩) _) hT (pr := []) (pcs := [wd_Txp cs h r (fun k => if k = 3 then (some hp) else none) f a g]) hw px_X.tt (px_recv hT hw 0 0 rfl rfl rfl) m9_15 m9_12 m9_14 ms_7_0 m1_35 q_Txp_pop ⟨Nat.le_of_ble_eq_true rfl, Nat.le_of_ble_eq_true rfl⟩ hl.1 rfl (Nat.le_of_ble_eq_true rfl) d_Txp_compute_109 ⟨Nat.le_of_ble_eq_true rfl, Nat.le_of_ble_eq_true rfl⟩) hw hA (fun v125 p124 H locs hp124 hw => ?_) | refine px_calli (pr := []) (px_runV (As := []) (rest := [.ref h]) S (c_Txp_pop l D cs h r g hp f a   (show TxOk (f 4) (f 5) (f 8) (f 9) (f 17) (f 21) (a 2) from ⟨lk, ⟨by first | exact i2 | omega, by first | exact i3 | omega⟩, ⟨by first | exact i4 | omega, by first | exact i5 | omega⟩, ⟨by first | exact i6 | omega, by first | exact i7 | omega⟩, by first | exact i8 | omega, ⟨by first | exact i9 | omega, by first | exact i11 | omega⟩, by first | exact i10 | omega, hrt⟩) _) hT (pr := []) (pcs := [wd_Txp cs h r (fun k => if k = 3 then (some hp) else none) f a g]) hw px_X.tt (px_recv hT hw 0 0 rfl rfl rfl) m9_15 m9_12 m9_14 ms_7_0 m1_35 q_Txp_pop ⟨Nat.le_of_ble_eq_true rfl, Nat.le_of_ble_eq_true rfl⟩ hl.1 rfl (Nat.le_of_ble_eq_true rfl) d_Txp_compute_109 ⟨Nat.le_of_ble_eq_true rfl, Nat.le_of_ble_eq_true rfl⟩) hw hA (fun v125 p124 H locs hp124 hw => ?_)
      obtain ⟨f122, a123, rfl, h132, e126, e127, e128, e129, e130, e131⟩ := hp124
      obtain ⟨lk, ⟨i2, i3⟩, ⟨i4, i5⟩, ⟨i6, i7⟩, i8, ⟨i9, i11⟩, i10, hrt⟩ := h132
      have e126 : (f122 9).toInt = (f 9).toInt := e126
      have e127 : (f122 17).toInt = (f 17).toInt := e127
      have e128 : (f122 21).toInt = (f 21).toInt := e128
      have e129 : (f122 15).toInt = (f 15).toInt := e129
      have e130 : (f122 20).toInt = (f 20).toInt := e130
      have e131 : (f122 4).toInt = (f 4).toInt := e131
      have lv125 := Int32.le_toInt v125
      have uv125 := Int32.toInt_lt v125
      refine lv_if_eq (tgt := 119) S.x S.b d_Txp_compute_112 (by decide) (fun c133 => ?_) (fun c133 => ?_)
      · have nc133 : v125.toInt = (0 : Int) := (i_eq (x := v125) (y := 0)).mp c133
        refine lv_iconst (v := 0) S.x S.b d_Txp_compute_119 (by decide) ?_
        first | refine px_callv (pr := []) (px_runV (As := [.int 0]) (rest := []) S (c_Txp_push l D cs h r g hp f122 a123 0  (show TxOk (f122 4) (f122 5) (f122 8) (f122 9) (f122 17) (f122 21) (a123 2) from ⟨lk, ⟨i2, i3⟩, ⟨i4, i5⟩, ⟨i6, i7⟩, i8, ⟨i9, i11⟩, i10, hrt⟩) _) hT (pr := []) (pcs := [wd_Txp cs h r (fun k => if k = 3 then (some hp) else none) f122 a123 g]) hw px_X.tt (px_recv hT hw 0 0 rfl rfl rfl) m8_47 m8_44 m8_46 ms_5_6 m1_35 q_Txp_push ⟨Nat.le_of_ble_eq_true rfl, Nat.le_of_ble_eq_true rfl⟩ hl.1 rfl (Nat.le_of_ble_eq_true rfl) d_Txp_compute_120 ⟨Nat.le_of_ble_eq_true rfl, Nat.le_of_ble_eq_true rfl⟩) hw hA (fun p136 H locs hp136 hw => ?_) | refine px_callv (pr := []) (px_runV (As := [.int 0]) (rest := []) S (c_Txp_push l D cs h r g hp f122 a123 0  (show TxOk (f122 4) (f122 5) (f122 8) (f122 9) (f122 17) (f122 21) (a123 2) from ⟨lk, ⟨by first | exact i2 | omega, by first | exact i3 | omega⟩, ⟨by first | exact i4 | omega, by first | exact i5 | omega⟩, ⟨by first | exact i6 | omega, by first | exact i7 | omega⟩, by first | exact i8 | omega, ⟨by first | exact i9 | omega, by first | exact i11 | omega⟩, by first | exact i10 | omega, hrt⟩) _) hT (pr := []) (pcs := [wd_Txp cs h r (fun k => if k = 3 then (some hp) else none) f122 a123 g]) hw px_X.tt (px_recv hT hw 0 0 rfl rfl rfl) m8_47 m8_44 m8_46 ms_5_6 m1_35 q_Txp_push ⟨Nat.le_of_ble_eq_true rfl, Nat.le_of_ble_eq_true rfl⟩ hl.1 rfl (Nat.le_of_ble_eq_true rfl) d_Txp_compute_120 ⟨Nat.le_of_ble_eq_true rfl, Nat.le_of_ble_eq_true rfl⟩) hw hA (fun p136 H locs hp136 hw => ?_)
        obtain ⟨f134, a135, rfl, h144, e138, e139, e140, e141, e142, e143⟩ := hp136
        obtain ⟨lk, ⟨i2, i3⟩, ⟨i4, i5⟩, ⟨i6, i7⟩, i8, ⟨i9, i11⟩, i10, hrt⟩ := h144
        have e138 : (f134 9).toInt = (f122 9).toInt := e138
        have e139 : (f134 17).toInt = (f122 17).toInt := e139
        have e140 : (f134 21).toInt = (f122 21).toInt := e140
        have e141 : (f134 15).toInt = (f122 15).toInt := e141
        have e142 : (f134 20).toInt = (f122 20).toInt := e142
        have e143 : (f134 4).toInt = (f122 4).toInt := e143
        refine lv_goto (tgt := 242) S.x S.b d_Txp_compute_123 (by decide) ?_
        first | exact px_vret S hr hlk hAe hw (Nat.le_of_ble_eq_true rfl) (Nat.le_of_ble_eq_true rfl) (⟨f134, a135, rfl, (show TxOk (f134 4) (f134 5) (f134 8) (f134 9) (f134 17) (f134 21) (a135 2) from ⟨lk, ⟨i2, i3⟩, ⟨i4, i5⟩, ⟨i6, i7⟩, i8, ⟨i9, i11⟩, i10, hrt⟩), (show (f134 9).toInt = (f 9).toInt from (oz_1687f4cc65 e126 e138)), (show (f134 17).toInt = (f 17).toInt from (oz_1687f4cc65 e127 e139)), (show (f134 21).toInt = 0 from (oz_06db467756 e140 e128 g0 i9)), (show (f134 15).toInt = (f 15).toInt from (oz_1687f4cc65 e129 e141)), (show (f134 20).toInt = (f 20).toInt from (oz_1687f4cc65 e130 e142))⟩) d_Txp_compute_242 | exact px_vret S hr hlk hAe hw (Nat.le_of_ble_eq_true rfl) (Nat.le_of_ble_eq_true rfl) (⟨f134, a135, rfl, (show TxOk (f134 4) (f134 5) (f134 8) (f134 9) (f134 17) (f134 21) (a135 2) from ⟨lk, ⟨by first | exact i2 | omega, by first | exact i3 | omega⟩, ⟨by first | exact i4 | omega, by first | exact i5 | omega⟩, ⟨by first | exact i6 | omega, by first | exact i7 | omega⟩, by first | exact i8 | omega, ⟨by first | exact i9 | omega, by first | exact i11 | omega⟩, by first | exact i10 | omega, hrt⟩), (show (f134 9).toInt = (f 9).toInt from by first | exact oz_1687f4cc65 e126 e138 | omega), (show (f134 17).toInt = (f 17).toInt from by first | exact oz_1687f4cc65 e127 e139 | omega), (show (f134 21).toInt = 0 from by first | exact oz_06db467756 e140 e128 g0 i9 | omega), (show (f134 15).toInt = (f 15).toInt from by first | exact oz_1687f4cc65 e129 e141 | omega), (show (f134 20).toInt = (f 20).toInt from by first | exact oz_1687f4cc65 e130 e142 | omega)⟩) d_Txp_compute_242
      · have nc133 : ¬ v125.toInt = (0 : Int) := mt (i_eq (x := v125) (y := 0)).mpr c133
        refine lv_iconst (v := 1) S.x S.b d_Txp_compute_115 (by decide) ?_
        refine lv_goto (tgt := 120) S.x S.b d_Txp_compute_116 (by decide) ?_
        first | refine px_callv (pr := []) (px_runV (As := [.int 1]) (rest := []) S (c_Txp_push l D cs h r g hp f122 a123 1  (show TxOk (f122 4) (f122 5) (f122 8) (f122 9) (f122 17) (f122 21) (a123 2) from ⟨lk, ⟨i2, i3⟩, ⟨i4, i5⟩, ⟨i6, i7⟩, i8, ⟨i9, i11⟩, i10, hrt⟩) _) hT (pr := []) (pcs := [wd_Txp cs h r (fun k => if k = 3 then (some hp) else none) f122 a123 g]) hw px_X.tt (px_recv hT hw 0 0 rfl rfl rfl) m8_47 m8_44 m8_46 ms_5_6 m1_35 q_Txp_push ⟨Nat.le_of_ble_eq_true rfl, Nat.le_of_ble_eq_true rfl⟩ hl.1 rfl (Nat.le_of_ble_eq_true rfl) d_Txp_compute_120 ⟨Nat.le_of_ble_eq_true rfl, Nat.le_of_ble_eq_true rfl⟩) hw hA (fun p147 H locs hp147 hw => ?_) | refine px_callv (pr := []) (px_runV (As := [.int 1]) (rest := []) S (c_Txp_push l D cs h r g hp f122 a123 1  (show TxOk (f122 4) (f122 5) (f122 8) (f122 9) (f122 17) (f122 21) (a123 2) from ⟨lk, ⟨by first | exact i2 | omega, by first | exact i3 | omega⟩, ⟨by first | exact i4 | omega, by first | exact i5 | omega⟩, ⟨by first | exact i6 | omega, by first | exact i7 | omega⟩, by first | exact i8 | omega, ⟨by first | exact i9 | omega, by first | exact i11 | omega⟩, by first | exact i10 | omega, hrt⟩) _) hT (pr := []) (pcs := [wd_Txp cs h r (fun k => if k = 3 then (some hp) else none) f122 a123 g]) hw px_X.tt (px_recv hT hw 0 0 rfl rfl rfl) m8_47 m8_44 m8_46 ms_5_6 m1_35 q_Txp_push ⟨Nat.le_of_ble_eq_true rfl, Nat.le_of_ble_eq_true rfl⟩ hl.1 rfl (Nat.le_of_ble_eq_true rfl) d_Txp_compute_120 ⟨Nat.le_of_ble_eq_true rfl, Nat.le_of_ble_eq_true rfl⟩) hw hA (fun p147 H locs hp147 hw => ?_)
        obtain ⟨f145, a146, rfl, h155, e149, e150, e151, e152, e153, e154⟩ := hp147
        obtain ⟨lk, ⟨i2, i3⟩, ⟨i4, i5⟩, ⟨i6, i7⟩, i8, ⟨i9, i11⟩, i10, hrt⟩ := h155
        have e149 : (f145 9).toInt = (f122 9).toInt := e149
        have e150 : (f145 17).toInt = (f122 17).toInt := e150
        have e151 : (f145 21).toInt = (f122 21).toInt := e151
        have e152 : (f145 15).toInt = (f122 15).toInt := e152
        have e153 : (f145 20).toInt = (f122 20).toInt := e153
        have e154 : (f145 4).toInt = (f122 4).toInt := e154
        refine lv_goto (tgt := 242) S.x S.b d_Txp_compute_123 (by decide) ?_
        first | exact px_vret S hr hlk hAe hw (Nat.le_of_ble_eq_true rfl) (Nat.le_of_ble_eq_true rfl) (⟨f145, a146, rfl, (show TxOk (f145 4) (f145 5) (f145 8) (f145 9) (f145 17) (f145 21) (a146 2) from ⟨lk, ⟨i2, i3⟩, ⟨i4, i5⟩, ⟨i6, i7⟩, i8, ⟨i9, i11⟩, i10, hrt⟩), (show (f145 9).toInt = (f 9).toInt from (oz_1687f4cc65 e126 e149)), (show (f145 17).toInt = (f 17).toInt from (oz_1687f4cc65 e127 e150)), (show (f145 21).toInt = 0 from (oz_06db467756 e151 e128 g0 i9)), (show (f145 15).toInt = (f 15).toInt from (oz_1687f4cc65 e129 e152)), (show (f145 20).toInt = (f 20).toInt from (oz_1687f4cc65 e130 e153))⟩) d_Txp_compute_242 | exact px_vret S hr hlk hAe hw (Nat.le_of_ble_eq_true rfl) (Nat.le_of_ble_eq_true rfl) (⟨f145, a146, rfl, (show TxOk (f145 4) (f145 5) (f145 8) (f145 9) (f145 17) (f145 21) (a146 2) from ⟨lk, ⟨by first | exact i2 | omega, by first | exact i3 | omega⟩, ⟨by first | exact i4 | omega, by first | exact i5 | omega⟩, ⟨by first | exact i6 | omega, by first | exact i7 | omega⟩, by first | exact i8 | omega, ⟨by first | exact i9 | omega, by first | exact i11 | omega⟩, by first | exact i10 | omega, hrt⟩), (show (f145 9).toInt = (f 9).toInt from by first | exact oz_1687f4cc65 e126 e149 | omega), (show (f145 17).toInt = (f 17).toInt from by first | exact oz_1687f4cc65 e127 e150 | omega), (show (f145 21).toInt = 0 from by first | exact oz_06db467756 e151 e128 g0 i9 | omega), (show (f145 15).toInt = (f 15).toInt from by first | exact oz_1687f4cc65 e129 e152 | omega), (show (f145 20).toInt = (f 20).toInt from by first | exact oz_1687f4cc65 e130 e153 | omega)⟩) d_Txp_compute_242
    · simp only [List.mem_cons, List.not_mem_nil, or_false] at c41
      refine lv_aload_n S.x S.b d_Txp_compute_126 rfl (lv_at hl 0 rfl) ?_
      refine lv_aload_n S.x S.b d_Txp_compute_127 rfl (lv_at hl 0 rfl) ?_
      first | refine px_calli (pr := []) (px_runV (As := []) (rest := [.ref h]) S (c_Txp_pop l D cs h r g hp f a   (show TxOk (f 4) (f 5) (f 8) (f 9) (f 17) (f 21) (a 2) from ⟨lk, ⟨i2, i3⟩, ⟨i4, i5⟩, ⟨i6, i7⟩, i8, ⟨i9, i11⟩, i10, hrt⟩) _) hT (pr := []) (pcs := [wd_Txp cs h r (fun k => if k = 3 then (some hp) else none) f a g]) hw px_X.tt (px_recv hT hw 0 0 rfl rfl rfl) m9_15 m9_12 m9_14 ms_7_0 m1_35 q_Txp_pop ⟨Nat.le_of_ble_eq_true rfl, Nat.le_of_ble_eq_true rfl⟩ hl.1 rfl (Nat.le_of_ble_eq_true rfl) d_Txp_compute_128 ⟨Nat.le_of_ble_eq_true rfl, Nat.le_of_ble_eq_true rfl⟩) hw hA (fun v159 p158 H locs hp158 hw => ?_) | refine px_calli (pr := []) (px_runV (As := []) (rest := [.ref h]) S (c_Txp_pop l D cs h r g hp f a   (show TxOk (f 4) (f 5) (f 8) (f 9) (f 17) (f 21) (a 2) from ⟨lk, ⟨by first | exact i2 | omega, by first | exact i3 | omega⟩, ⟨by first | exact i4 | omega, by first | exact i5 | omega⟩, ⟨by first | exact i6 | omega, by first | exact i7 | omega⟩, by first | exact i8 | omega, ⟨by first | exact i9 | omega, by first | exact i11 | omega⟩, by first | exact i10 | omega, hrt⟩) _) hT (pr := []) (pcs := [wd_Txp cs h r (fun k => if k = 3 then (some hp) else none) f a g]) hw px_X.tt (px_recv hT hw 0 0 rfl rfl rfl) m9_15 m9_12 m9_14 ms_7_0 m1_35 q_Txp_pop ⟨Nat.le_of_ble_eq_true rfl, Nat.le_of_ble_eq_true rfl⟩ hl.1 rfl (Nat.le_of_ble_eq_true rfl) d_Txp_compute_128 ⟨Nat.le_of_ble_eq_true rfl, Nat.le_of_ble_eq_true rfl⟩) hw hA (fun v159 p158 H locs hp158 hw => ?_)
      obtain ⟨f156, a157, rfl, h166, e160, e161, e162, e163, e164, e165⟩ := hp158
      obtain ⟨lk, ⟨i2, i3⟩, ⟨i4, i5⟩, ⟨i6, i7⟩, i8, ⟨i9, i11⟩, i10, hrt⟩ := h166
      have e160 : (f156 9).toInt = (f 9).toInt := e160
      have e161 : (f156 17).toInt = (f 17).toInt := e161
      have e162 : (f156 21).toInt = (f 21).toInt := e162
      have e163 : (f156 15).toInt = (f 15).toInt := e163
      have e164 : (f156 20).toInt = (f 20).toInt := e164
      have e165 : (f156 4).toInt = (f 4).toInt := e165
      have lv159 := Int32.le_toInt v159
      have uv159 := Int32.toInt_lt v159
      refine lv_sipush (v := 255) S.x S.b d_Txp_compute_131 (by decide) ?_
      refine lv_iand S.x S.b d_Txp_compute_134 ?_
      refine lv_topi (fun z167 ez167 => ?_)
      have lz167 := Int32.le_toInt z167
      have uz167 := Int32.toInt_lt z167
      have bz167 := i_andm v159 (m := 255) 8 (by decide) (by decide)
      rw [← ez167] at bz167
      have wz167 : 0 ≤ z167.toInt ∧ z167.toInt ≤ 255 := by simp only [Nat.reducePow, Int.reducePow] at bz167; omega
      first | refine px_callv (pr := []) (px_runV (As := [.int z167]) (rest := []) S (c_Txp_push l D cs h r g hp f156 a157 z167  (show TxOk (f156 4) (f156 5) (f156 8) (f156 9) (f156 17) (f156 21) (a157 2) from ⟨lk, ⟨i2, i3⟩, ⟨i4, i5⟩, ⟨i6, i7⟩, i8, ⟨i9, i11⟩, i10, hrt⟩) _) hT (pr := []) (pcs := [wd_Txp cs h r (fun k => if k = 3 then (some hp) else none) f156 a157 g]) hw px_X.tt (px_recv hT hw 0 0 rfl rfl rfl) m8_47 m8_44 m8_46 ms_5_6 m1_35 q_Txp_push ⟨Nat.le_of_ble_eq_true rfl, Nat.le_of_ble_eq_true rfl⟩ hl.1 rfl (Nat.le_of_ble_eq_true rfl) d_Txp_compute_135 ⟨Nat.le_of_ble_eq_true rfl, Nat.le_of_ble_eq_true rfl⟩) hw hA (fun p170 H locs hp170 hw => ?_) | refine px_callv (pr := []) (px_runV (As := [.int z167]) (rest := []) S (c_Txp_push l D cs h r g hp f156 a157 z167  (show TxOk (f156 4) (f156 5) (f156 8) (f156 9) (f156 17) (f156 21) (a157 2) from ⟨lk, ⟨by first | exact i2 | omega, by first | exact i3 | omega⟩, ⟨by first | exact i4 | omega, by first | exact i5 | omega⟩, ⟨by first | exact i6 | omega, by first | exact i7 | omega⟩, by first | exact i8 | omega, ⟨by first | exact i9 | omega, by first | exact i11 | omega⟩, by first | exact i10 | omega, hrt⟩) _) hT (pr := []) (pcs := [wd_Txp cs h r (fun k => if k = 3 then (some hp) else none) f156 a157 g]) hw px_X.tt (px_recv hT hw 0 0 rfl rfl rfl) m8_47 m8_44 m8_46 ms_5_6 m1_35 q_Txp_push ⟨Nat.le_of_ble_eq_true rfl, Nat.le_of_ble_eq_true rfl⟩ hl.1 rfl (Nat.le_of_ble_eq_true rfl) d_Txp_compute_135 ⟨Nat.le_of_ble_eq_true rfl, Nat.le_of_ble_eq_true rfl⟩) hw hA (fun p170 H locs hp170 hw => ?_)
      obtain ⟨f168, a169, rfl, h178, e172, e173, e174, e175, e176, e177⟩ := hp170
      obtain ⟨lk, ⟨i2, i3⟩, ⟨i4, i5⟩, ⟨i6, i7⟩, i8, ⟨i9, i11⟩, i10, hrt⟩ := h178
      have e172 : (f168 9).toInt = (f156 9).toInt := e172
      have e173 : (f168 17).toInt = (f156 17).toInt := e173
      have e174 : (f168 21).toInt = (f156 21).toInt := e174
      have e175 : (f168 15).toInt = (f156 15).toInt := e175
      have e176 : (f168 20).toInt = (f156 20).toInt := e176
      have e177 : (f168 4).toInt = (f156 4).toInt := e177
      refine lv_goto (tgt := 242) S.x S.b d_Txp_compute_138 (by decide) ?_
      first | exact px_vret S hr hlk hAe hw (Nat.le_of_ble_eq_true rfl) (Nat.le_of_ble_eq_true rfl) (⟨f168, a169, rfl, (show TxOk (f168 4) (f168 5) (f168 8) (f168 9) (f168 17) (f168 21) (a169 2) from ⟨lk, ⟨i2, i3⟩, ⟨i4, i5⟩, ⟨i6, i7⟩, i8, ⟨i9, i11⟩, i10, hrt⟩), (show (f168 9).toInt = (f 9).toInt from (oz_1687f4cc65 e160 e172)), (show (f168 17).toInt = (f 17).toInt from (oz_1687f4cc65 e161 e173)), (show (f168 21).toInt = 0 from (oz_06db467756 e174 e162 g0 i9)), (show (f168 15).toInt = (f 15).toInt from (oz_1687f4cc65 e163 e175)), (show (f168 20).toInt = (f 20).toInt from (oz_1687f4cc65 e164 e176))⟩) d_Txp_compute_242 | exact px_vret S hr hlk hAe hw (Nat.le_of_ble_eq_true rfl) (Nat.le_of_ble_eq_true rfl) (⟨f168, a169, rfl, (show TxOk (f168 4) (f168 5) (f168 8) (f168 9) (f168 17) (f168 21) (a169 2) from ⟨lk, ⟨by first | exact i2 | omega, by first | exact i3 | omega⟩, ⟨by first | exact i4 | omega, by first | exact i5 | omega⟩, ⟨by first | exact i6 | omega, by first | exact i7 | omega⟩, by first | exact i8 | omega, ⟨by first | exact i9 | omega, by first | exact i11 | omega⟩, by first | exact i10 | omega, hrt⟩), (show (f168 9).toInt = (f 9).toInt from by first | exact oz_1687f4cc65 e160 e172 | omega), (show (f168 17).toInt = (f 17).toInt from by first | exact oz_1687f4cc65 e161 e173 | omega), (show (f168 21).toInt = 0 from by first | exact oz_06db467756 e174 e162 g0 i9 | omega), (show (f168 15).toInt = (f 15).toInt from by first | exact oz_1687f4cc65 e163 e175 | omega), (show (f168 20).toInt = (f 20).toInt from by first | exact oz_1687f4cc65 e164 e176 | omega)⟩) d_Txp_compute_242
    · simp only [List.mem_cons, List.not_mem_nil, or_false] at c41
      refine lv_aload_n S.x S.b d_Txp_compute_141 rfl (lv_at hl 0 rfl) ?_
      refine lv_aload_n S.x S.b d_Txp_compute_142 rfl (lv_at hl 0 rfl) ?_
      refine lv_iload_n S.x S.b d_Txp_compute_143 rfl (lv_at hl 3 rfl) ?_
      refine lv_iload S.x S.b d_Txp_compute_144 (lv_at hl 4 rfl) ?_
      first | refine px_calli (pr := []) (px_runV (As := [.int p2, .int p3]) (rest := [.ref h]) S (c_Txp_rowStart l D cs h r g hp f a p2 p3  (show TxOk (f 4) (f 5) (f 8) (f 9) (f 17) (f 21) (a 2) from ⟨lk, ⟨i2, i3⟩, ⟨i4, i5⟩, ⟨i6, i7⟩, i8, ⟨i9, i11⟩, i10, hrt⟩) _) hT (pr := []) (pcs := [wd_Txp cs h r (fun k => if k = 3 then (some hp) else none) f a g]) hw px_X.tt (px_recv hT hw 0 0 rfl rfl rfl) m9_47 m9_44 m9_46 ms_7_7 m1_35 q_Txp_rowStart ⟨Nat.le_of_ble_eq_true rfl, Nat.le_of_ble_eq_true rfl⟩ hl.1 rfl (Nat.le_of_ble_eq_true rfl) d_Txp_compute_146 ⟨Nat.le_of_ble_eq_true rfl, Nat.le_of_ble_eq_true rfl⟩) hw hA (fun v180 p179 H locs hp179 hw => ?_) | refine px_calli (pr := []) (px_runV (As := [.int p2, .int p3]) (rest := [.ref h]) S (c_Txp_rowStart l D cs h r g hp f a p2 p3  (show TxOk (f 4) (f 5) (f 8) (f 9) (f 17) (f 21) (a 2) from ⟨lk, ⟨by first | exact i2 | omega, by first | exact i3 | omega⟩, ⟨by first | exact i4 | omega, by first | exact i5 | omega⟩, ⟨by first | exact i6 | omega, by first | exact i7 | omega⟩, by first | exact i8 | omega, ⟨by first | exact i9 | omega, by first | exact i11 | omega⟩, by first | exact i10 | omega, hrt⟩) _) hT (pr := []) (pcs := [wd_Txp cs h r (fun k => if k = 3 then (some hp) else none) f a g]) hw px_X.tt (px_recv hT hw 0 0 rfl rfl rfl) m9_47 m9_44 m9_46 ms_7_7 m1_35 q_Txp_rowStart ⟨Nat.le_of_ble_eq_true rfl, Nat.le_of_ble_eq_true rfl⟩ hl.1 rfl (Nat.le_of_ble_eq_true rfl) d_Txp_compute_146 ⟨Nat.le_of_ble_eq_true rfl, Nat.le_of_ble_eq_true rfl⟩) hw hA (fun v180 p179 H locs hp179 hw => ?_)
      subst hp179
      have lv180 := Int32.le_toInt v180
      have uv180 := Int32.toInt_lt v180
      first | refine px_callv (pr := []) (px_runV (As := [.int v180]) (rest := []) S (c_Txp_push l D cs h r g hp f a v180  (show TxOk (f 4) (f 5) (f 8) (f 9) (f 17) (f 21) (a 2) from ⟨lk, ⟨i2, i3⟩, ⟨i4, i5⟩, ⟨i6, i7⟩, i8, ⟨i9, i11⟩, i10, hrt⟩) _) hT (pr := []) (pcs := [wd_Txp cs h r (fun k => if k = 3 then (some hp) else none) f a g]) hw px_X.tt (px_recv hT hw 0 0 rfl rfl rfl) m8_47 m8_44 m8_46 ms_5_6 m1_35 q_Txp_push ⟨Nat.le_of_ble_eq_true rfl, Nat.le_of_ble_eq_true rfl⟩ hl.1 rfl (Nat.le_of_ble_eq_true rfl) d_Txp_compute_149 ⟨Nat.le_of_ble_eq_true rfl, Nat.le_of_ble_eq_true rfl⟩) hw hA (fun p183 H locs hp183 hw => ?_) | refine px_callv (pr := []) (px_runV (As := [.int v180]) (rest := []) S (c_Txp_push l D cs h r g hp f a v180  (show TxOk (f 4) (f 5) (f 8) (f 9) (f 17) (f 21) (a 2) from ⟨lk, ⟨by first | exact i2 | omega, by first | exact i3 | omega⟩, ⟨by first | exact i4 | omega, by first | exact i5 | omega⟩, ⟨by first | exact i6 | omega, by first | exact i7 | omega⟩, by first | exact i8 | omega, ⟨by first | exact i9 | omega, by first | exact i11 | omega⟩, by first | exact i10 | omega, hrt⟩) _) hT (pr := []) (pcs := [wd_Txp cs h r (fun k => if k = 3 then (some hp) else none) f a g]) hw px_X.tt (px_recv hT hw 0 0 rfl rfl rfl) m8_47 m8_44 m8_46 ms_5_6 m1_35 q_Txp_push ⟨Nat.le_of_ble_eq_true rfl, Nat.le_of_ble_eq_true rfl⟩ hl.1 rfl (Nat.le_of_ble_eq_true rfl) d_Txp_compute_149 ⟨Nat.le_of_ble_eq_true rfl, Nat.le_of_ble_eq_true rfl⟩) hw hA (fun p183 H locs hp183 hw => ?_)
      obtain ⟨f181, a182, rfl, h191, e185, e186, e187, e188, e189, e190⟩ := hp183
      obtain ⟨lk, ⟨i2, i3⟩, ⟨i4, i5⟩, ⟨i6, i7⟩, i8, ⟨i9, i11⟩, i10, hrt⟩ := h191
      have e185 : (f181 9).toInt = (f 9).toInt := e185
      have e186 : (f181 17).toInt = (f 17).toInt := e186
      have e187 : (f181 21).toInt = (f 21).toInt := e187
      have e188 : (f181 15).toInt = (f 15).toInt := e188
      have e189 : (f181 20).toInt = (f 20).toInt := e189
      have e190 : (f181 4).toInt = (f 4).toInt := e190
      refine lv_aload_n S.x S.b d_Txp_compute_152 rfl (lv_at hl 0 rfl) ?_
      refine lv_aload_n S.x S.b d_Txp_compute_153 rfl (lv_at hl 0 rfl) ?_
      refine lv_iload_n S.x S.b d_Txp_compute_154 rfl (lv_at hl 3 rfl) ?_
      refine lv_iload S.x S.b d_Txp_compute_155 (lv_at hl 4 rfl) ?_
      refine lv_iload S.x S.b d_Txp_compute_157 (lv_at hl 5 rfl) ?_
      first | refine px_calli (pr := []) (px_runV (As := [.int p2, .int p3, .int p4]) (rest := [.ref h]) S (c_Txp_rowLength l D cs h r g hp f181 a182 p2 p3 p4  (show TxOk (f181 4) (f181 5) (f181 8) (f181 9) (f181 17) (f181 21) (a182 2) from ⟨lk, ⟨i2, i3⟩, ⟨i4, i5⟩, ⟨i6, i7⟩, i8, ⟨i9, i11⟩, i10, hrt⟩) _) hT (pr := []) (pcs := [wd_Txp cs h r (fun k => if k = 3 then (some hp) else none) f181 a182 g]) hw px_X.tt (px_recv hT hw 0 0 rfl rfl rfl) m9_43 m9_40 m9_42 ms_7_6 m1_35 q_Txp_rowLength ⟨Nat.le_of_ble_eq_true rfl, Nat.le_of_ble_eq_true rfl⟩ hl.1 rfl (Nat.le_of_ble_eq_true rfl) d_Txp_compute_159 ⟨Nat.le_of_ble_eq_true rfl, Nat.le_of_ble_eq_true rfl⟩) hw hA (fun v193 p192 H locs hp192 hw => ?_) | refine px_calli (pr := []) (px_runV (As := [.int p2, .int p3, .int p4]) (rest := [.ref h]) S (c_Txp_rowLength l D cs h r g hp f181 a182 p2 p3 p4  (show TxOk (f181 4) (f181 5) (f181 8) (f181 9) (f181 17) (f181 21) (a182 2) from ⟨lk, ⟨by first | exact i2 | omega, by first | exact i3 | omega⟩, ⟨by first | exact i4 | omega, by first | exact i5 | omega⟩, ⟨by first | exact i6 | omega, by first | exact i7 | omega⟩, by first | exact i8 | omega, ⟨by first | exact i9 | omega, by first | exact i11 | omega⟩, by first | exact i10 | omega, hrt⟩) _) hT (pr := []) (pcs := [wd_Txp cs h r (fun k => if k = 3 then (some hp) else none) f181 a182 g]) hw px_X.tt (px_recv hT hw 0 0 rfl rfl rfl) m9_43 m9_40 m9_42 ms_7_6 m1_35 q_Txp_rowLength ⟨Nat.le_of_ble_eq_true rfl, Nat.le_of_ble_eq_true rfl⟩ hl.1 rfl (Nat.le_of_ble_eq_true rfl) d_Txp_compute_159 ⟨Nat.le_of_ble_eq_true rfl, Nat.le_of_ble_eq_true rfl⟩) hw hA (fun v193 p192 H locs hp192 hw => ?_)
      subst hp192
      have lv193 := Int32.le_toInt v193
      have uv193 := Int32.toInt_lt v193
      first | refine px_callv (pr := []) (px_runV (As := [.int v193]) (rest := []) S (c_Txp_push l D cs h r g hp f181 a182 v193  (show TxOk (f181 4) (f181 5) (f181 8) (f181 9) (f181 17) (f181 21) (a182 2) from ⟨lk, ⟨i2, i3⟩, ⟨i4, i5⟩, ⟨i6, i7⟩, i8, ⟨i9, i11⟩, i10, hrt⟩) _) hT (pr := []) (pcs := [wd_Txp cs h r (fun k => if k = 3 then (some hp) else none) f181 a182 g]) hw px_X.tt (px_recv hT hw 0 0 rfl rfl rfl) m8_47 m8_44 m8_46 ms_5_6 m1_35 q_Txp_push ⟨Nat.le_of_ble_eq_true rfl, Nat.le_of_ble_eq_true rfl⟩ hl.1 rfl (Nat.le_of_ble_eq_true rfl) d_Txp_compute_162 ⟨Nat.le_of_ble_eq_true rfl, Nat.le_of_ble_eq_true rfl⟩) hw hA (fun p196 H locs hp196 hw => ?_) | refine px_callv (pr := []) (px_runV (As := [.int v193]) (rest := []) S (c_Txp_push l D cs h r g hp f181 a182 v193  (show TxOk (f181 4) (f181 5) (f181 8) (f181 9) (f181 17) (f181 21) (a182 2) from ⟨lk, ⟨by first | exact i2 | omega, by first | exact i3 | omega⟩, ⟨by first | exact i4 | omega, by first | exact i5 | omega⟩, ⟨by first | exact i6 | omega, by first | exact i7 | omega⟩, by first | exact i8 | omega, ⟨by first | exact i9 | omega, by first | exact i11 | omega⟩, by first | exact i10 | omega, hrt⟩) _) hT (pr := []) (pcs := [wd_Txp cs h r (fun k => if k = 3 then (some hp) else none) f181 a182 g]) hw px_X.tt (px_recv hT hw 0 0 rfl rfl rfl) m8_47 m8_44 m8_46 ms_5_6 m1_35 q_Txp_push ⟨Nat.le_of_ble_eq_true rfl, Nat.le_of_ble_eq_true rfl⟩ hl.1 rfl (Nat.le_of_ble_eq_true rfl) d_Txp_compute_162 ⟨Nat.le_of_ble_eq_true rfl, Nat.le_of_ble_eq_true rfl⟩) hw hA (fun p196 H locs hp196 hw => ?_)
      obtain ⟨f194, a195, rfl, h204, e198, e199, e200, e201, e202, e203⟩ := hp196
      obtain ⟨lk, ⟨i2, i3⟩, ⟨i4, i5⟩, ⟨i6, i7⟩, i8, ⟨i9, i11⟩, i10, hrt⟩ := h204
      have e198 : (f194 9).toInt = (f181 9).toInt := e198
      have e199 : (f194 17).toInt = (f181 17).toInt := e199
      have e200 : (f194 21).toInt = (f181 21).toInt := e200
      have e201 : (f194 15).toInt = (f181 15).toInt := e201
      have e202 : (f194 20).toInt = (f181 20).toInt := e202
      have e203 : (f194 4).toInt = (f181 4).toInt := e203
      refine lv_goto (tgt := 242) S.x S.b d_Txp_compute_165 (by decide) ?_
      first | exact px_vret S hr hlk hAe hw (Nat.le_of_ble_eq_true rfl) (Nat.le_of_ble_eq_true rfl) (⟨f194, a195, rfl, (show TxOk (f194 4) (f194 5) (f194 8) (f194 9) (f194 17) (f194 21) (a195 2) from ⟨lk, ⟨i2, i3⟩, ⟨i4, i5⟩, ⟨i6, i7⟩, i8, ⟨i9, i11⟩, i10, hrt⟩), (show (f194 9).toInt = (f 9).toInt from (oz_1687f4cc65 e185 e198)), (show (f194 17).toInt = (f 17).toInt from (oz_1687f4cc65 e186 e199)), (show (f194 21).toInt = 0 from (oz_06db467756 e200 e187 g0 i9)), (show (f194 15).toInt = (f 15).toInt from (oz_1687f4cc65 e188 e201)), (show (f194 20).toInt = (f 20).toInt from (oz_1687f4cc65 e189 e202))⟩) d_Txp_compute_242 | exact px_vret S hr hlk hAe hw (Nat.le_of_ble_eq_true rfl) (Nat.le_of_ble_eq_true rfl) (⟨f194, a195, rfl, (show TxOk (f194 4) (f194 5) (f194 8) (f194 9) (f194 17) (f194 21) (a195 2) from ⟨lk, ⟨by first | exact i2 | omega, by first | exact i3 | omega⟩, ⟨by first | exact i4 | omega, by first | exact i5 | omega⟩, ⟨by first | exact i6 | omega, by first | exact i7 | omega⟩, by first | exact i8 | omega, ⟨by first | exact i9 | omega, by first | exact i11 | omega⟩, by first | exact i10 | omega, hrt⟩), (show (f194 9).toInt = (f 9).toInt from by first | exact oz_1687f4cc65 e185 e198 | omega), (show (f194 17).toInt = (f 17).toInt from by first | exact oz_1687f4cc65 e186 e199 | omega), (show (f194 21).toInt = 0 from by first | exact oz_06db467756 e200 e187 g0 i9 | omega), (show (f194 15).toInt = (f 15).toInt from by first | exact oz_1687f4cc65 e188 e201 | omega), (show (f194 20).toInt = (f 20).toInt from by first | exact oz_1687f4cc65 e189 e202 | omega)⟩) d_Txp_compute_242
    · simp only [List.mem_cons, List.not_mem_nil, or_false] at c41
      refine lv_aload_n S.x S.b d_Txp_compute_168 rfl (lv_at hl 0 rfl) ?_
      first | refine px_calli (pr := []) (px_runV (As := []) (rest := []) S (c_Txp_pop l D cs h r g hp f a   (show TxOk (f 4) (f 5) (f 8) (f 9) (f 17) (f 21) (a 2) from ⟨lk, ⟨i2, i3⟩, ⟨i4, i5⟩, ⟨i6, i7⟩, i8, ⟨i9, i11⟩, i10, hrt⟩) _) hT (pr := []) (pcs := [wd_Txp cs h r (fun k => if k = 3 then (some hp) else none) f a g]) hw px_X.tt (px_recv hT hw 0 0 rfl rfl rfl) m9_15 m9_12 m9_14 ms_7_0 m1_35 q_Txp_pop ⟨Nat.le_of_ble_eq_true rfl, Nat.le_of_ble_eq_true rfl⟩ hl.1 rfl (Nat.le_of_ble_eq_true rfl) d_Txp_compute_169 ⟨Nat.le_of_ble_eq_true rfl, Nat.le_of_ble_eq_true rfl⟩) hw hA (fun v208 p207 H locs hp207 hw => ?_) | refine px_calli (pr := []) (px_runV (As := []) (rest := []) S (c_Txp_pop l D cs h r g hp f a   (show TxOk (f 4) (f 5) (f 8) (f 9) (f 17) (f 21) (a 2) from ⟨lk, ⟨by first | exact i2 | omega, by first | exact i3 | omega⟩, ⟨by first | exact i4 | omega, by first | exact i5 | omega⟩, ⟨by first | exact i6 | omega, by first | exact i7 | omega⟩, by first | exact i8 | omega, ⟨by first | exact i9 | omega, by first | exact i11 | omega⟩, by first | exact i10 | omega, hrt⟩) _) hT (pr := []) (pcs := [wd_Txp cs h r (fun k => if k = 3 then (some hp) else none) f a g]) hw px_X.tt (px_recv hT hw 0 0 rfl rfl rfl) m9_15 m9_12 m9_14 ms_7_0 m1_35 q_Txp_pop ⟨Nat.le_of_ble_eq_true rfl, Nat.le_of_ble_eq_true rfl⟩ hl.1 rfl (Nat.le_of_ble_eq_true rfl) d_Txp_compute_169 ⟨Nat.le_of_ble_eq_true rfl, Nat.le_of_ble_eq_true rfl⟩) hw hA (fun v208 p207 H locs hp207 hw => ?_)
      obtain ⟨f205, a206, rfl, h215, e209, e210, e211, e212, e213, e214⟩ := hp207
      obtain ⟨lk, ⟨i2, i3⟩, ⟨i4, i5⟩, ⟨i6, i7⟩, i8, ⟨i9, i11⟩, i10, hrt⟩ := h215
      have e209 : (f205 9).toInt = (f 9).toInt := e209
      have e210 : (f205 17).toInt = (f 17).toInt := e210
      have e211 : (f205 21).toInt = (f 21).toInt := e211
      have e212 : (f205 15).toInt = (f 15).toInt := e212
      have e213 : (f205 20).toInt = (f 20).toInt := e213
      have e214 : (f205 4).toInt = (f 4).toInt := e214
      have lv208 := Int32.le_toInt v208
      have uv208 := Int32.toInt_lt v208
      refine lv_istore (lv' := [(6, .int v208), (0, .ref h), (1, .int p0), (2, .int p1), (3, .int p2), (4, .int p3), (5, .int p4)]) S.x S.b d_Txp_compute_172 hl (by decide) rfl (fun ls hl => ?_)
      refine lv_aload_n S.x S.b d_Txp_compute_174 rfl (lv_at hl 1 rfl) ?_
      first | refine px_calli (pr := []) (px_runV (As := []) (rest := []) S (c_Txp_pop l D cs h r g hp f205 a206   (show TxOk (f205 4) (f205 5) (f205 8) (f205 9) (f205 17) (f205 21) (a206 2) from ⟨lk, ⟨i2, i3⟩, ⟨i4, i5⟩, ⟨i6, i7⟩, i8, ⟨i9, i11⟩, i10, hrt⟩) _) hT (pr := []) (pcs := [wd_Txp cs h r (fun k => if k = 3 then (some hp) else none) f205 a206 g]) hw px_X.tt (px_recv hT hw 0 0 rfl rfl rfl) m9_15 m9_12 m9_14 ms_7_0 m1_35 q_Txp_pop ⟨Nat.le_of_ble_eq_true rfl, Nat.le_of_ble_eq_true rfl⟩ hl.1 rfl (Nat.le_of_ble_eq_true rfl) d_Txp_compute_175 ⟨Nat.le_of_ble_eq_true rfl, Nat.le_of_ble_eq_true rfl⟩) hw hA (fun v219 p218 H locs hp218 hw => ?_) | refine px_calli (pr := []) (px_runV (As := []) (rest := []) S (c_Txp_pop l D cs h r g hp f205 a206   (show TxOk (f205 4) (f205 5) (f205 8) (f205 9) (f205 17) (f205 21) (a206 2) from ⟨lk, ⟨by first | exact i2 | omega, by first | exact i3 | omega⟩, ⟨by first | exact i4 | omega, by first | exact i5 | omega⟩, ⟨by first | exact i6 | omega, by first | exact i7 | omega⟩, by first | exact i8 | omega, ⟨by first | exact i9 | omega, by first | exact i11 | omega⟩, by first | exact i10 | omega, hrt⟩) _) hT (pr := []) (pcs := [wd_Txp cs h r (fun k => if k = 3 then (some hp) else none) f205 a206 g]) hw px_X.tt (px_recv hT hw 0 0 rfl rfl rfl) m9_15 m9_12 m9_14 ms_7_0 m1_35 q_Txp_pop ⟨Nat.le_of_ble_eq_true rfl, Nat.le_of_ble_eq_true rfl⟩ hl.1 rfl (Nat.le_of_ble_eq_true rfl) d_Txp_compute_175 ⟨Nat.le_of_ble_eq_true rfl, Nat.le_of_ble_eq_true rfl⟩) hw hA (fun v219 p218 H locs hp218 hw => ?_)
      obtain ⟨f216, a217, rfl, h226, e220, e221, e222, e223, e224, e225⟩ := hp218
      obtain ⟨lk, ⟨i2, i3⟩, ⟨i4, i5⟩, ⟨i6, i7⟩, i8, ⟨i9, i11⟩, i10, hrt⟩ := h226
      have e220 : (f216 9).toInt = (f205 9).toInt := e220
      have e221 : (f216 17).toInt = (f205 17).toInt := e221
      have e222 : (f216 21).toInt = (f205 21).toInt := e222
      have e223 : (f216 15).toInt = (f205 15).toInt := e223
      have e224 : (f216 20).toInt = (f205 20).toInt := e224
      have e225 : (f216 4).toInt = (f205 4).toInt := e225
      have lv219 := Int32.le_toInt v219
      have uv219 := Int32.toInt_lt v219
      refine lv_pop S.x S.b d_Txp_compute_178 rfl ?_
      refine lv_aload_n S.x S.b d_Txp_compute_179 rfl (lv_at hl 1 rfl) ?_
      refine lv_iload S.x S.b d_Txp_compute_180 (lv_at hl 0 rfl) ?_
      first | refine px_callv (pr := []) (px_runV (As := [.int v208]) (rest := []) S (c_Txp_push l D cs h r g hp f216 a217 v208  (show TxOk (f216 4) (f216 5) (f216 8) (f216 9) (f216 17) (f216 21) (a217 2) from ⟨lk, ⟨i2, i3⟩, ⟨i4, i5⟩, ⟨i6, i7⟩, i8, ⟨i9, i11⟩, i10, hrt⟩) _) hT (pr := []) (pcs := [wd_Txp cs h r (fun k => if k = 3 then (some hp) else none) f216 a217 g]) hw px_X.tt (px_recv hT hw 0 0 rfl rfl rfl) m8_47 m8_44 m8_46 ms_5_6 m1_35 q_Txp_push ⟨Nat.le_of_ble_eq_true rfl, Nat.le_of_ble_eq_true rfl⟩ hl.1 rfl (Nat.le_of_ble_eq_true rfl) d_Txp_compute_182 ⟨Nat.le_of_ble_eq_true rfl, Nat.le_of_ble_eq_true rfl⟩) hw hA (fun p229 H locs hp229 hw => ?_) | refine px_callv (pr := []) (px_runV (As := [.int v208]) (rest := []) S (c_Txp_push l D cs h r g hp f216 a217 v208  (show TxOk (f216 4) (f216 5) (f216 8) (f216 9) (f216 17) (f216 21) (a217 2) from ⟨lk, ⟨by first | exact i2 | omega, by first | exact i3 | omega⟩, ⟨by first | exact i4 | omega, by first | exact i5 | omega⟩, ⟨by first | exact i6 | omega, by first | exact i7 | omega⟩, by first | exact i8 | omega, ⟨by first | exact i9 | omega, by first | exact i11 | omega⟩, by first | exact i10 | omega, hrt⟩) _) hT (pr := []) (pcs := [wd_Txp cs h r (fun k => if k = 3 then (some hp) else none) f216 a217 g]) hw px_X.tt (px_recv hT hw 0 0 rfl rfl rfl) m8_47 m8_44 m8_46 ms_5_6 m1_35 q_Txp_push ⟨Nat.le_of_ble_eq_true rfl, Nat.le_of_ble_eq_true rfl⟩ hl.1 rfl (Nat.le_of_ble_eq_true rfl) d_Txp_compute_182 ⟨Nat.le_of_ble_eq_true rfl, Nat.le_of_ble_eq_true rfl⟩) hw hA (fun p229 H locs hp229 hw => ?_)
      obtain ⟨f227, a228, rfl, h237, e231, e232, e233, e234, e235, e236⟩ := hp229
      obtain ⟨lk, ⟨i2, i3⟩, ⟨i4, i5⟩, ⟨i6, i7⟩, i8, ⟨i9, i11⟩, i10, hrt⟩ := h237
      have e231 : (f227 9).toInt = (f216 9).toInt := e231
      have e232 : (f227 17).toInt = (f216 17).toInt := e232
      have e233 : (f227 21).toInt = (f216 21).toInt := e233
      have e234 : (f227 15).toInt = (f216 15).toInt := e234
      have e235 : (f227 20).toInt = (f216 20).toInt := e235
      have e236 : (f227 4).toInt = (f216 4).toInt := e236
      refine lv_goto (tgt := 242) S.x S.b d_Txp_compute_185 (by decide) ?_
      first | exact px_vret S hr hlk hAe hw (Nat.le_of_ble_eq_true rfl) (Nat.le_of_ble_eq_true rfl) (⟨f227, a228, rfl, (show TxOk (f227 4) (f227 5) (f227 8) (f227 9) (f227 17) (f227 21) (a228 2) from ⟨lk, ⟨i2, i3⟩, ⟨i4, i5⟩, ⟨i6, i7⟩, i8, ⟨i9, i11⟩, i10, hrt⟩), (show (f227 9).toInt = (f 9).toInt from (oz_e13fc83238 e209 e231 e220)), (show (f227 17).toInt = (f 17).toInt from (oz_e13fc83238 e210 e232 e221)), (show (f227 21).toInt = 0 from (oz_96aae3e9d2 e233 e222 e211 g0 i9)), (show (f227 15).toInt = (f 15).toInt from (oz_e13fc83238 e212 e234 e223)), (show (f227 20).toInt = (f 20).toInt from (oz_e13fc83238 e213 e235 e224))⟩) d_Txp_compute_242 | exact px_vret S hr hlk hAe hw (Nat.le_of_ble_eq_true rfl) (Nat.le_of_ble_eq_true rfl) (⟨f227, a228, rfl, (show TxOk (f227 4) (f227 5) (f227 8) (f227 9) (f227 17) (f227 21) (a228 2) from ⟨lk, ⟨by first | exact i2 | omega, by first | exact i3 | omega⟩, ⟨by first | exact i4 | omega, by first | exact i5 | omega⟩, ⟨by first | exact i6 | omega, by first | exact i7 | omega⟩, by first | exact i8 | omega, ⟨by first | exact i9 | omega, by first | exact i11 | omega⟩, by first | exact i10 | omega, hrt⟩), (show (f227 9).toInt = (f 9).toInt from by first | exact oz_e13fc83238 e209 e231 e220 | omega), (show (f227 17).toInt = (f 17).toInt from by first | exact oz_e13fc83238 e210 e232 e221 | omega), (show (f227 21).toInt = 0 from by first | exact oz_96aae3e9d2 e233 e222 e211 g0 i9 | omega), (show (f227 15).toInt = (f 15).toInt from by first | exact oz_e13fc83238 e212 e234 e223 | omega), (show (f227 20).toInt = (f 20).toInt from by first | exact oz_e13fc83238 e213 e235 e224 | omega)⟩) d_Txp_compute_242
    · simp only [List.mem_cons, List.not_mem_nil, or_false] at c41
      refine lv_iconst (v := 0) S.x S.b d_Txp_compute_188 (by decide) ?_
      refine lv_istore (lv' := [(7, .int 0), (0, .ref h), (1, .int p0), (2, .int p1), (3, .int p2), (4, .int p3), (5, .int p4)]) S.x S.b d_Txp_compute_189 hl (by decide) rfl (fun ls hl => ?_)
      first | exact J191 ((p3.toInt-(0 : Int)+4294967297).toNat + 1) f a (0 : Int32) _ _ ls (show TxOk (f 4) (f 5) (f 8) (f 9) (f 17) (f 21) (a 2) from ⟨lk, ⟨i2, i3⟩, ⟨i4, i5⟩, ⟨i6, i7⟩, i8, ⟨i9, i11⟩, i10, hrt⟩) (show (f 9).toInt = (f 9).toInt from rfl) (show (f 17).toInt = (f 17).toInt from rfl) (show (f 21).toInt = 0 from g0) (show (f 15).toInt = (f 15).toInt from rfl) (show (f 20).toInt = (f 20).toInt from rfl) (show 0 ≤ (0 : Int) from by first | decide | omega) (show p3.toInt-(0 : Int)+4294967297 < ((((p3.toInt-(0 : Int)+4294967297).toNat + 1 : Nat) : Int) : Int) from oz_natlt) hw (lv_sub hl [1, 2, 3, 4, 5, 6, 0] rfl) | exact J191 ((p3.toInt-(0 : Int)+4294967297).toNat + 1) f a (0 : Int32) _ _ ls (show TxOk (f 4) (f 5) (f 8) (f 9) (f 17) (f 21) (a 2) from ⟨lk, ⟨by first | exact i2 | omega, by first | exact i3 | omega⟩, ⟨by first | exact i4 | omega, by first | exact i5 | omega⟩, ⟨by first | exact i6 | omega, by first | exact i7 | omega⟩, by first | exact i8 | omega, ⟨by first | exact i9 | omega, by first | exact i11 | omega⟩, by first | exact i10 | omega, hrt⟩) (show (f 9).toInt = (f 9).toInt from rfl) (show (f 17).toInt = (f 17).toInt from rfl) (show (f 21).toInt = 0 from by first | exact g0 | omega) (show (f 15).toInt = (f 15).toInt from rfl) (show (f 20).toInt = (f 20).toInt from rfl) (show 0 ≤ (0 : Int) from by first | decide | omega) (show p3.toInt-(0 : Int)+4294967297 < ((((p3.toInt-(0 : Int)+4294967297).toNat + 1 : Nat) : Int) : Int) from by first | exact oz_natlt | omega) hw (lv_sub hl [1, 2, 3, 4, 5, 6, 0] rfl)
abbrev b_Txp_access : ByteArray := prog_11_method_20_code
def y_Txp_access : MethodName := ⟨"HomeSystem$TextProcess", "access", "(IIIII)V"⟩
theorem d_Txp_access_0 : decode b_Txp_access 0 = .ok (.iload_n 1, 1) := by decide +kernel
theorem d_Txp_access_1 : decode b_Txp_access 1 = .ok (.iconst 3, 1) := by decide +kernel
theorem d_Txp_access_2 : decode b_Txp_access 2 = .ok (.if_icmp .eq 8, 3) := by decide +kernel
theorem d_Txp_access_5 : decode b_Txp_access 5 = .ok (.iload_n 1, 1) := by decide +kernel
theorem d_Txp_access_6 : decode b_Txp_access 6 = .ok (.iconst 4, 1) := by decide +kernel
theorem d_Txp_access_7 : decode b_Txp_access 7 = .ok (.if_icmp .ne 10, 3) := by decide +kernel
theorem d_Txp_access_10 : decode b_Txp_access 10 = .ok (.aload_n 0, 1) := by decide +kernel
theorem d_Txp_access_11 : decode b_Txp_access 11 = .ok (.invokevirtual 119, 3) := by decide +kernel
theorem d_Txp_access_14 : decode b_Txp_access 14 = .ok (.goto 4, 3) := by decide +kernel
theorem d_Txp_access_17 : decode b_Txp_access 17 = .ok (.iconst 0, 1) := by decide +kernel
theorem d_Txp_access_18 : decode b_Txp_access 18 = .ok (.istore 6, 2) := by decide +kernel
theorem d_Txp_access_20 : decode b_Txp_access 20 = .ok (.iload_n 3, 1) := by decide +kernel
theorem d_Txp_access_21 : decode b_Txp_access 21 = .ok (.iconst 4, 1) := by decide +kernel
theorem d_Txp_access_22 : decode b_Txp_access 22 = .ok (.iand, 1) := by decide +kernel
theorem d_Txp_access_23 : decode b_Txp_access 23 = .ok (.ifCond .eq 10, 3) := by decide +kernel
theorem d_Txp_access_26 : decode b_Txp_access 26 = .ok (.aload_n 0, 1) := by decide +kernel
theorem d_Txp_access_27 : decode b_Txp_access 27 = .ok (.invokevirtual 119, 3) := by decide +kernel
theorem d_Txp_access_30 : decode b_Txp_access 30 = .ok (.goto 4, 3) := by decide +kernel
theorem d_Txp_access_33 : decode b_Txp_access 33 = .ok (.iconst 0, 1) := by decide +kernel
theorem d_Txp_access_34 : decode b_Txp_access 34 = .ok (.istore 7, 2) := by decide +kernel
theorem d_Txp_access_36 : decode b_Txp_access 36 = .ok (.iload_n 3, 1) := by decide +kernel
theorem d_Txp_access_37 : decode b_Txp_access 37 = .ok (.iconst 4, 1) := by decide +kernel
theorem d_Txp_access_38 : decode b_Txp_access 38 = .ok (.iand, 1) := by decide +kernel
theorem d_Txp_access_39 : decode b_Txp_access 39 = .ok (.ifCond .eq 29, 3) := by decide +kernel
theorem d_Txp_access_42 : decode b_Txp_access 42 = .ok (.iload 7, 2) := by decide +kernel
theorem d_Txp_access_44 : decode b_Txp_access 44 = .ok (.ifCond .lt 17, 3) := by decide +kernel
theorem d_Txp_access_47 : decode b_Txp_access 47 = .ok (.iload 7, 2) := by decide +kernel
theorem d_Txp_access_49 : decode b_Txp_access 49 = .ok (.aload_n 0, 1) := by decide +kernel
theorem d_Txp_access_50 : decode b_Txp_access 50 = .ok (.iload_n 3, 1) := by decide +kernel
theorem d_Txp_access_51 : decode b_Txp_access 51 = .ok (.iload 4, 2) := by decide +kernel
theorem d_Txp_access_53 : decode b_Txp_access 53 = .ok (.iload 5, 2) := by decide +kernel
theorem d_Txp_access_55 : decode b_Txp_access 55 = .ok (.invokevirtual 132, 3) := by decide +kernel
theorem d_Txp_access_58 : decode b_Txp_access 58 = .ok (.if_icmp .lt 10, 3) := by decide +kernel
theorem d_Txp_access_61 : decode b_Txp_access 61 = .ok (.aload_n 0, 1) := by decide +kernel
theorem d_Txp_access_62 : decode b_Txp_access 62 = .ok (.iconst 2, 1) := by decide +kernel
theorem d_Txp_access_63 : decode b_Txp_access 63 = .ok (.iconst 0, 1) := by decide +kernel
theorem d_Txp_access_64 : decode b_Txp_access 64 = .ok (.invokevirtual 105, 3) := by decide +kernel
theorem d_Txp_access_67 : decode b_Txp_access 67 = .ok (.return_, 1) := by decide +kernel
theorem d_Txp_access_68 : decode b_Txp_access 68 = .ok (.aload_n 0, 1) := by decide +kernel
theorem d_Txp_access_69 : decode b_Txp_access 69 = .ok (.iload_n 3, 1) := by decide +kernel
theorem d_Txp_access_70 : decode b_Txp_access 70 = .ok (.aload_n 0, 1) := by decide +kernel
theorem d_Txp_access_71 : decode b_Txp_access 71 = .ok (.iload_n 3, 1) := by decide +kernel
theorem d_Txp_access_72 : decode b_Txp_access 72 = .ok (.iload 4, 2) := by decide +kernel
theorem d_Txp_access_74 : decode b_Txp_access 74 = .ok (.invokevirtual 129, 3) := by decide +kernel
theorem d_Txp_access_77 : decode b_Txp_access 77 = .ok (.iload 7, 2) := by decide +kernel
theorem d_Txp_access_79 : decode b_Txp_access 79 = .ok (.invokevirtual 136, 3) := by decide +kernel
theorem d_Txp_access_82 : decode b_Txp_access 82 = .ok (.aload_n 0, 1) := by decide +kernel
theorem d_Txp_access_83 : decode b_Txp_access 83 = .ok (.invokevirtual 155, 3) := by decide +kernel
theorem d_Txp_access_86 : decode b_Txp_access 86 = .ok (.istore 8, 2) := by decide +kernel
theorem d_Txp_access_88 : decode b_Txp_access 88 = .ok (.iload_n 1, 1) := by decide +kernel
theorem d_Txp_access_89 : decode b_Txp_access 89 = .ok (.iconst 2, 1) := by decide +kernel
theorem d_Txp_access_90 : decode b_Txp_access 90 = .ok (.if_icmp .ne 12, 3) := by decide +kernel
theorem d_Txp_access_93 : decode b_Txp_access 93 = .ok (.aload_n 0, 1) := by decide +kernel
theorem d_Txp_access_94 : decode b_Txp_access 94 = .ok (.iload 8, 2) := by decide +kernel
theorem d_Txp_access_96 : decode b_Txp_access 96 = .ok (.invokevirtual 74, 3) := by decide +kernel
theorem d_Txp_access_99 : decode b_Txp_access 99 = .ok (.goto 106, 3) := by decide +kernel
theorem d_Txp_access_102 : decode b_Txp_access 102 = .ok (.iload_n 1, 1) := by decide +kernel
theorem d_Txp_access_103 : decode b_Txp_access 103 = .ok (.iconst 3, 1) := by decide +kernel
theorem d_Txp_access_104 : decode b_Txp_access 104 = .ok (.if_icmp .ne 17, 3) := by decide +kernel
theorem d_Txp_access_107 : decode b_Txp_access 107 = .ok (.aload_n 0, 1) := by decide +kernel
theorem d_Txp_access_108 : decode b_Txp_access 108 = .ok (.aload_n 0, 1) := by decide +kernel
theorem d_Txp_access_109 : decode b_Txp_access 109 = .ok (.iload_n 3, 1) := by decide +kernel
theorem d_Txp_access_110 : decode b_Txp_access 110 = .ok (.iload 6, 2) := by decide +kernel
theorem d_Txp_access_112 : decode b_Txp_access 112 = .ok (.invokevirtual 139, 3) := by decide +kernel
theorem d_Txp_access_115 : decode b_Txp_access 115 = .ok (.invokevirtual 74, 3) := by decide +kernel
theorem d_Txp_access_118 : decode b_Txp_access 118 = .ok (.goto 87, 3) := by decide +kernel
theorem d_Txp_access_121 : decode b_Txp_access 121 = .ok (.iload_n 1, 1) := by decide +kernel
theorem d_Txp_access_122 : decode b_Txp_access 122 = .ok (.iconst 5, 1) := by decide +kernel
theorem d_Txp_access_123 : decode b_Txp_access 123 = .ok (.if_icmp .ne 47, 3) := by decide +kernel
theorem d_Txp_access_126 : decode b_Txp_access 126 = .ok (.aload_n 0, 1) := by decide +kernel
theorem d_Txp_access_127 : decode b_Txp_access 127 = .ok (.iload_n 3, 1) := by decide +kernel
theorem d_Txp_access_128 : decode b_Txp_access 128 = .ok (.iload_n 2, 1) := by decide +kernel
theorem d_Txp_access_129 : decode b_Txp_access 129 = .ok (.iconst 1, 1) := by decide +kernel
theorem d_Txp_access_130 : decode b_Txp_access 130 = .ok (.iand, 1) := by decide +kernel
theorem d_Txp_access_131 : decode b_Txp_access 131 = .ok (.ifCond .eq 10, 3) := by decide +kernel
theorem d_Txp_access_134 : decode b_Txp_access 134 = .ok (.iload 8, 2) := by decide +kernel
theorem d_Txp_access_136 : decode b_Txp_access 136 = .ok (.iconst 1, 1) := by decide +kernel
theorem d_Txp_access_137 : decode b_Txp_access 137 = .ok (.isub, 1) := by decide +kernel
theorem d_Txp_access_138 : decode b_Txp_access 138 = .ok (.goto 7, 3) := by decide +kernel
theorem d_Txp_access_141 : decode b_Txp_access 141 = .ok (.iload 8, 2) := by decide +kernel
theorem d_Txp_access_143 : decode b_Txp_access 143 = .ok (.iconst 1, 1) := by decide +kernel
theorem d_Txp_access_144 : decode b_Txp_access 144 = .ok (.iadd, 1) := by decide +kernel
theorem d_Txp_access_145 : decode b_Txp_access 145 = .ok (.invokevirtual 139, 3) := by decide +kernel
theorem d_Txp_access_148 : decode b_Txp_access 148 = .ok (.istore 9, 2) := by decide +kernel
theorem d_Txp_access_150 : decode b_Txp_access 150 = .ok (.aload_n 0, 1) := by decide +kernel
theorem d_Txp_access_151 : decode b_Txp_access 151 = .ok (.iload_n 2, 1) := by decide +kernel
theorem d_Txp_access_152 : decode b_Txp_access 152 = .ok (.iconst 2, 1) := by decide +kernel
theorem d_Txp_access_153 : decode b_Txp_access 153 = .ok (.iand, 1) := by decide +kernel
theorem d_Txp_access_154 : decode b_Txp_access 154 = .ok (.ifCond .eq 8, 3) := by decide +kernel
theorem d_Txp_access_157 : decode b_Txp_access 157 = .ok (.iload 8, 2) := by decide +kernel
theorem d_Txp_access_159 : decode b_Txp_access 159 = .ok (.goto 5, 3) := by decide +kernel
theorem d_Txp_access_162 : decode b_Txp_access 162 = .ok (.iload 9, 2) := by decide +kernel
theorem d_Txp_access_164 : decode b_Txp_access 164 = .ok (.invokevirtual 74, 3) := by decide +kernel
theorem d_Txp_access_167 : decode b_Txp_access 167 = .ok (.goto 38, 3) := by decide +kernel
theorem d_Txp_access_170 : decode b_Txp_access 170 = .ok (.iload_n 2, 1) := by decide +kernel
theorem d_Txp_access_171 : decode b_Txp_access 171 = .ok (.iload 6, 2) := by decide +kernel
theorem d_Txp_access_173 : decode b_Txp_access 173 = .ok (.invokestatic 142, 3) := by decide +kernel
theorem d_Txp_access_176 : decode b_Txp_access 176 = .ok (.ifCond .eq 12, 3) := by decide +kernel
theorem d_Txp_access_179 : decode b_Txp_access 179 = .ok (.aload_n 0, 1) := by decide +kernel
theorem d_Txp_access_180 : decode b_Txp_access 180 = .ok (.iconst 3, 1) := by decide +kernel
theorem d_Txp_access_181 : decode b_Txp_access 181 = .ok (.iconst 0, 1) := by decide +kernel
theorem d_Txp_access_182 : decode b_Txp_access 182 = .ok (.invokevirtual 105, 3) := by decide +kernel
theorem d_Txp_access_185 : decode b_Txp_access 185 = .ok (.goto 20, 3) := by decide +kernel
theorem d_Txp_access_188 : decode b_Txp_access 188 = .ok (.aload_n 0, 1) := by decide +kernel
theorem d_Txp_access_189 : decode b_Txp_access 189 = .ok (.aload_n 0, 1) := by decide +kernel
theorem d_Txp_access_190 : decode b_Txp_access 190 = .ok (.iload_n 3, 1) := by decide +kernel
theorem d_Txp_access_191 : decode b_Txp_access 191 = .ok (.iload_n 2, 1) := by decide +kernel
theorem d_Txp_access_192 : decode b_Txp_access 192 = .ok (.iload 8, 2) := by decide +kernel
theorem d_Txp_access_194 : decode b_Txp_access 194 = .ok (.iload 6, 2) := by decide +kernel
theorem d_Txp_access_196 : decode b_Txp_access 196 = .ok (.invokestatic 146, 3) := by decide +kernel
theorem d_Txp_access_199 : decode b_Txp_access 199 = .ok (.invokevirtual 139, 3) := by decide +kernel
theorem d_Txp_access_202 : decode b_Txp_access 202 = .ok (.invokevirtual 74, 3) := by decide +kernel
theorem d_Txp_access_205 : decode b_Txp_access 205 = .ok (.return_, 1) := by decide +kernel
theorem q_Txp_access : px_y y_Txp_access 5 := by unfold px_y; decide +kernel
set_option maxHeartbeats 4000000 in
set_option maxRecDepth 100000 in
theorem c_Txp_access (l : Launch) (D : va_G) (cs : Nat → ClassId) (h : Nat) (r : Nat → Nat) (g : Nat → Nat → Option Nat) (hp : Nat) (f : Nat → Int32) (a : Nat → Nat → Int32) (p0 p1 p2 p3 p4 : Int32)  (hinv0 : TxOk (f 4) (f 5) (f 8) (f 9) (f 17) (f 21) (a 2)) (g0 : (f 21).toInt = 0) : MetV l y_Txp_access b_Txp_access 10 D cs 2 70 (0) (0) [.ref h, .int p0, .int p1, .int p2, .int p3, .int p4] [wd_Txp cs h r (fun k => if k = 3 then (some hp) else none) f a g] (fun _ => True) (fun ps => ∃ (f' : Nat → Int32) (a' : Nat → Nat → Int32), (ps = [wd_Txp cs h r (fun k => if k = 3 then (some hp) else none) f' a' g]) ∧ (TxOk (f' 4) (f' 5) (f' 8) (f' 9) (f' 17) (f' 21) (a' 2)) ∧ ((f' 9).toInt = (f 9).toInt) ∧ ((f' 17).toInt = (f 17).toInt) ∧ ((f' 21).toInt = 0) ∧ ((f' 15).toInt = (f 15).toInt) ∧ ((f' 20).toInt = (f 20).toInt)) := by
  refine px_enter (by decide) (Nat.le_of_ble_eq_true rfl) ?_
  intro p e s m below meth c A ls hAe S hr hlk hnm hA hT hX hw hl
  have hl : lv_has ls 10 [(0, .ref h), (1, .int p0), (2, .int p1), (3, .int p2), (4, .int p3), (5, .int p4)] := hl
  have lp0 := Int32.le_toInt p0
  have up0 := Int32.toInt_lt p0
  have lp1 := Int32.le_toInt p1
  have up1 := Int32.toInt_lt p1
  have lp2 := Int32.le_toInt p2
  have up2 := Int32.toInt_lt p2
  have lp3 := Int32.le_toInt p3
  have up3 := Int32.toInt_lt p3
  have lp4 := Int32.le_toInt p4
  have up4 := Int32.toInt_lt p4
  have cst0 : (0 : Int32).toInt = 0 := rfl
  have cst1 : (1 : Int32).toInt = 1 := rfl
  have cst2 : (2 : Int32).toInt = 2 := rfl
  have cst3 : (3 : Int32).toInt = 3 := rfl
  have cst4 : (4 : Int32).toInt = 4 := rfl
  have cst5 : (5 : Int32).toInt = 5 := rfl
  obtain ⟨lk, ⟨i2, i3⟩, ⟨i4, i5⟩, ⟨i6, i7⟩, i8, ⟨i9, i11⟩, i10, hrt⟩ := hinv0
  have J68 : ∀ (f_68 : Nat → Int32) (a_68 : Nat → Nat → Int32) (x68_6 x68_7 : Int32) (H : Heap) (locs : List Loc) (ls : Array Slot), (TxOk (f_68 4) (f_68 5) (f_68 8) (f_68 9) (f_68 17) (f_68 21) (a_68 2)) → ((f_68 9).toInt = (f 9).toInt) → ((f_68 17).toInt = (f 17).toInt) → ((f_68 21).toInt = 0) → ((f_68 15).toInt = (f 15).toInt) → ((f_68 20).toInt = (f 20).toInt) → pw D A s.heap H locs [wd_Txp cs h r (fun k => if k = 3 then (some hp) else none) f_68 a_68 g] → lv_has ls 10 [(0, .ref h), (1, .int p0), (2, .int p1), (3, .int p2), (4, .int p3), (5, .int p4), (6, .int x68_6), (7, .int x68_7)] → W p l e { frames := 2, cells := 0, slots := 0, locals := 70 } s m [.ref h, .int p0, .int p1, .int p2, .int p3, .int p4].toArray below meth c H locs 0 0 (MQ below (va_Qv (fun ps => ∃ (f' : Nat → Int32) (a' : Nat → Nat → Int32), (ps = [wd_Txp cs h r (fun k => if k = 3 then (some hp) else none) f' a' g]) ∧ (TxOk (f' 4) (f' 5) (f' 8) (f' 9) (f' 17) (f' 21) (a' 2)) ∧ ((f' 9).toInt = (f 9).toInt) ∧ ((f' 17).toInt = (f 17).toInt) ∧ ((f' 21).toInt = 0) ∧ ((f' 15).toInt = (f 15).toInt) ∧ ((f' 20).toInt = (f 20).toInt)) (pc_B D (va_A ([wd_Txp cs h r (fun k => if k = 3 then (some hp) else none) f a g] : List va_W).flatten s.heap.size)) (va_A ([wd_Txp cs h r (fun k => if k = 3 then (some hp) else none) f a g] : List va_W).flatten s.heap.size)) [.ref h, .int p0, .int p1, .int p2, .int p3, .int p4].toArray s 0 0 A) (F0 m 68 ls []) := by
    intro f_68 a_68 x68_6 x68_7 H locs ls hi68_0 k68_0 k68_1 k68_2 k68_3 k68_4 hw hl
    obtain ⟨lk, ⟨i2, i3⟩, ⟨i4, i5⟩, ⟨i6, i7⟩, i8, ⟨i9, i11⟩, i10, hrt⟩ := hi68_0
    have lx68_6 := Int32.le_toInt x68_6
    have ux68_6 := Int32.toInt_lt x68_6
    have lx68_7 := Int32.le_toInt x68_7
    have ux68_7 := Int32.toInt_lt x68_7
    refine lv_aload_n S.x S.b d_Txp_access_68 rfl (lv_at hl 0 rfl) ?_
    refine lv_iload_n S.x S.b d_Txp_access_69 rfl (lv_at hl 3 rfl) ?_
    refine lv_aload_n S.x S.b d_Txp_access_70 rfl (lv_at hl 0 rfl) ?_
    refine lv_iload_n S.x S.b d_Txp_access_71 rfl (lv_at hl 3 rfl) ?_
    refine lv_iload S.x S.b d_Txp_access_72 (lv_at hl 4 rfl) ?_
    first | refine px_calli (pr := []) (px_runV (As := [.int p2, .int p3]) (rest := [.int p2, .ref h]) S (c_Txp_rowStart l D cs h r g hp f_68 a_68 p2 p3  (show TxOk (f_68 4) (f_68 5) (f_68 8) (f_68 9) (f_68 17) (f_68 21) (a_68 2) from ⟨lk, ⟨i2, i3⟩, ⟨i4, i5⟩, ⟨i6, i7⟩, i8, ⟨i9, i11⟩, i10, hrt⟩) _) hT (pr := []) (pcs := [wd_Txp cs h r (fun k => if k = 3 then (some hp) else none) f_68 a_68 g]) hw px_X.tt (px_recv hT hw 0 0 rfl rfl rfl) m9_47 m9_44 m9_46 ms_7_7 m1_35 q_Txp_rowStart ⟨Nat.le_of_ble_eq_true rfl, Nat.le_of_ble_eq_true rfl⟩ hl.1 rfl (Nat.le_of_ble_eq_true rfl) d_Txp_access_74 ⟨Nat.le_of_ble_eq_true rfl, Nat.le_of_ble_eq_true rfl⟩) hw hA (fun v2 p1 H locs hp1 hw => ?_) | refine px_calli (pr := []) (px_runV (As := [.int p2, .int p3]) (rest := [.int p2, .ref h]) S (c_Txp_rowStart l D cs h r g hp f_68 a_68 p2 p3  (show TxOk (f_68 4) (f_68 5) (f_68 8) (f_68 9) (f_68 17) (f_68 21) (a_68 2) from ⟨lk, ⟨by first | exact i2 | omega, by first | exact i3 | omega⟩, ⟨by first | exact i4 | omega, by first | exact i5 | omega⟩, ⟨by first | exact i6 | omega, by first | exact i7 | omega⟩, by first | exact i8 | omega, ⟨by first | exact i9 | omega, by first | exact i11 | omega⟩, by first | exact i10 | omega, hrt⟩) _) hT (pr := []) (pcs := [wd_Txp cs h r (fun k => if k = 3 then (some hp) else none) f_68 a_68 g]) hw px_X.tt (px_recv hT hw 0 0 rfl rfl rfl) m9_47 m9_44 m9_46 ms_7_7 m1_35 q_Txp_rowStart ⟨Nat.le_of_ble_eq_true rfl, Nat.le_of_ble_eq_true rfl⟩ hl.1 rfl (Nat.le_of_ble_eq_true rfl) d_Txp_access_74 ⟨Nat.le_of_ble_eq_true rfl, Nat.le_of_ble_eq_true rfl⟩) hw hA (fun v2 p1 H locs hp1 hw => ?_)
    subst hp1
    have lv2 := Int32.le_toInt v2
    have uv2 := Int32.toInt_lt v2
    refine lv_iload S.x S.b d_Txp_access_77 (lv_at hl 7 rfl) ?_
    first | refine px_callv (pr := []) (px_runV (As := [.int p2, .int v2, .int x68_7]) (rest := []) S (c_Txp_lookUp l D cs h r g hp f_68 a_68 p2 v2 x68_7  (show TxOk (f_68 4) (f_68 5) (f_68 8) (f_68 9) (f_68 17) (f_68 21) (a_68 2) from ⟨lk, ⟨i2, i3⟩, ⟨i4, i5⟩, ⟨i6, i7⟩, i8, ⟨i9, i11⟩, i10, hrt⟩) _) hT (pr := []) (pcs := [wd_Txp cs h r (fun k => if k = 3 then (some hp) else none) f_68 a_68 g]) hw px_X.tt (px_recv hT hw 0 0 rfl rfl rfl) m9_51 m9_48 m9_50 ms_7_8 m1_35 q_Txp_lookUp ⟨Nat.le_of_ble_eq_true rfl, Nat.le_of_ble_eq_true rfl⟩ hl.1 rfl (Nat.le_of_ble_eq_true rfl) d_Txp_access_79 ⟨Nat.le_of_ble_eq_true rfl, Nat.le_of_ble_eq_true rfl⟩) hw hA (fun p5 H locs hp5 hw => ?_) | refine px_callv (pr := []) (px_runV (As := [.int p2, .int v2, .int x68_7]) (rest := []) S (c_Txp_lookUp l D cs h r g hp f_68 a_68 p2 v2 x68_7  (show TxOk (f_68 4) (f_68 5) (f_68 8) (f_68 9) (f_68 17) (f_68 21) (a_68 2) from ⟨lk, ⟨by first | exact i2 | omega, by first | exact i3 | omega⟩, ⟨by first | exact i4 | omega, by first | exact i5 | omega⟩, ⟨by first | exact i6 | omega, by first | exact i7 | omega⟩, by first | exact i8 | omega, ⟨by first | exact i9 | omega, by first | exact i11 | omega⟩, by first | exact i10 | omega, hrt⟩) _) hT (pr := []) (pcs := [wd_Txp cs h r (fun k => if k = 3 then (some hp) else none) f_68 a_68 g]) hw px_X.tt (px_recv hT hw 0 0 rfl rfl rfl) m9_51 m9_48 m9_50 ms_7_8 m1_35 q_Txp_lookUp ⟨Nat.le_of_ble_eq_true rfl, Nat.le_of_ble_eq_true rfl⟩ hl.1 rfl (Nat.le_of_ble_eq_true rfl) d_Txp_access_79 ⟨Nat.le_of_ble_eq_true rfl, Nat.le_of_ble_eq_true rfl⟩) hw hA (fun p5 H locs hp5 hw => ?_)
    obtain ⟨f3, a4, rfl, h13, e7, e8, e9, e10, e11, e12⟩ := hp5
    obtain ⟨lk, ⟨i2, i3⟩, ⟨i4, i5⟩, ⟨i6, i7⟩, i8, ⟨i9, i11⟩, i10, hrt⟩ := h13
    have e7 : (f3 9).toInt = (f_68 9).toInt := e7
    have e8 : (f3 17).toInt = (f_68 17).toInt := e8
    have e9 : (f3 21).toInt = (f_68 21).toInt := e9
    have e10 : (f3 15).toInt = (f_68 15).toInt := e10
    have e11 : (f3 20).toInt = (f_68 20).toInt := e11
    have e12 : (f3 4).toInt = (f_68 4).toInt := e12
    refine lv_aload_n S.x S.b d_Txp_access_82 rfl (lv_at hl 0 rfl) ?_
    first | refine px_calli (pr := []) (px_runV (As := []) (rest := []) S (c_Txp_look l D cs h r g hp f3 a4   (show TxOk (f3 4) (f3 5) (f3 8) (f3 9) (f3 17) (f3 21) (a4 2) from ⟨lk, ⟨i2, i3⟩, ⟨i4, i5⟩, ⟨i6, i7⟩, i8, ⟨i9, i11⟩, i10, hrt⟩) _) hT (pr := []) (pcs := [wd_Txp cs h r (fun k => if k = 3 then (some hp) else none) f3 a4 g]) hw px_X.tt (px_recv hT hw 0 0 rfl rfl rfl) m9_55 m9_52 m9_54 ms_7_9 m1_35 q_Txp_look ⟨Nat.le_of_ble_eq_true rfl, Nat.le_of_ble_eq_true rfl⟩ hl.1 rfl (Nat.le_of_ble_eq_true rfl) d_Txp_access_83 ⟨Nat.le_of_ble_eq_true rfl, Nat.le_of_ble_eq_true rfl⟩) hw hA (fun v15 p14 H locs hp14 hw => ?_) | refine px_calli (pr := []) (px_runV (As := []) (rest := []) S (c_Txp_look l D cs h r g hp f3 a4   (show TxOk (f3 4) (f3 5) (f3 8) (f3 9) (f3 17) (f3 21) (a4 2) from ⟨lk, ⟨by first | exact i2 | omega, by first | exact i3 | omega⟩, ⟨by first | exact i4 | omega, by first | exact i5 | omega⟩, ⟨by first | exact i6 | omega, by first | exact i7 | omega⟩, by first | exact i8 | omega, ⟨by first | exact i9 | omega, by first | exact i11 | omega⟩, by first | exact i10 | omega, hrt⟩) _) hT (pr := []) (pcs := [wd_Txp cs h r (fun k => if k = 3 then (some hp) else none) f3 a4 g]) hw px_X.tt (px_recv hT hw 0 0 rfl rfl rfl) m9_55 m9_52 m9_54 ms_7_9 m1_35 q_Txp_look ⟨Nat.le_of_ble_eq_true rfl, Nat.le_of_ble_eq_true rfl⟩ hl.1 rfl (Nat.le_of_ble_eq_true rfl) d_Txp_access_83 ⟨Nat.le_of_ble_eq_true rfl, Nat.le_of_ble_eq_true rfl⟩) hw hA (fun v15 p14 H locs hp14 hw => ?_)
    subst hp14
    have lv15 := Int32.le_toInt v15
    have uv15 := Int32.toInt_lt v15
    refine lv_istore (lv' := [(8, .int v15), (0, .ref h), (1, .int p0), (2, .int p1), (3, .int p2), (4, .int p3), (5, .int p4), (6, .int x68_6), (7, .int x68_7)]) S.x S.b d_Txp_access_86 hl (by decide) rfl (fun ls hl => ?_)
    refine lv_iload_n S.x S.b d_Txp_access_88 rfl (lv_at hl 2 rfl) ?_
    refine lv_iconst (v := 2) S.x S.b d_Txp_access_89 (by decide) ?_
    refine lv_icmp_ne (tgt := 102) S.x S.b d_Txp_access_90 (by decide) (fun c16 => ?_) (fun c16 => ?_)
    · have nc16 : ¬ p0.toInt = (2 : Int) := mt (i_eq (x := p0) (y := 2)).mpr c16
      refine lv_iload_n S.x S.b d_Txp_access_102 rfl (lv_at hl 2 rfl) ?_
      refine lv_iconst (v := 3) S.x S.b d_Txp_access_103 (by decide) ?_
      refine lv_icmp_ne (tgt := 121) S.x S.b d_Txp_access_104 (by decide) (fun c17 => ?_) (fun c17 => ?_)
      · have nc17 : ¬ p0.toInt = (3 : Int) := mt (i_eq (x := p0) (y := 3)).mpr c17
        refine lv_iload_n S.x S.b d_Txp_access_121 rfl (lv_at hl 2 rfl) ?_
        refine lv_iconst (v := 5) S.x S.b d_Txp_access_122 (by decide) ?_
        refine lv_icmp_ne (tgt := 170) S.x S.b d_Txp_access_123 (by decide) (fun c18 => ?_) (fun c18 => ?_)
        · have nc18 : ¬ p0.toInt = (5 : Int) := mt (i_eq (x := p0) (y := 5)).mpr c18
          refine lv_iload_n S.x S.b d_Txp_access_170 rfl (lv_at hl 3 rfl) ?_
          refine lv_iload S.x S.b d_Txp_access_171 (lv_at hl 7 rfl) ?_
          refine px_calli (pr := [wd_Txp cs h r (fun k => if k = 3 then (some hp) else none) f3 a4 g]) (px_runSN (As := [.int p1, .int x68_6]) (rest := []) S (c_Hs_byZero l D cs  p1 x68_6   _) hT (pr := [wd_Txp cs h r (fun k => if k = 3 then (some hp) else none) f3 a4 g]) (pcs := []) hw px_X.tt m5_97 m9_60n m5_96 m1_1 q_Hs_byZero ⟨Nat.le_of_ble_eq_true rfl, Nat.le_of_ble_eq_true rfl⟩ hl.1 rfl (Nat.le_of_ble_eq_true rfl) d_Txp_access_173 ⟨Nat.le_of_ble_eq_true rfl, Nat.le_of_ble_eq_true rfl⟩) hw hA (fun v20 p19 H locs hp19 hw => ?_)
          obtain ⟨rfl, e21⟩ := hp19
          have e21 := z_rng e21
          have lv20 := Int32.le_toInt v20
          have uv20 := Int32.toInt_lt v20
          refine lv_if_eq (tgt := 188) S.x S.b d_Txp_access_176 (by decide) (fun c22 => ?_) (fun c22 => ?_)
          · have nc22 : v20.toInt = (0 : Int) := (i_eq (x := v20) (y := 0)).mp c22
            refine lv_aload_n S.x S.b d_Txp_access_188 rfl (lv_at hl 1 rfl) ?_
            refine lv_aload_n S.x S.b d_Txp_access_189 rfl (lv_at hl 1 rfl) ?_
            refine lv_iload_n S.x S.b d_Txp_access_190 rfl (lv_at hl 4 rfl) ?_
            refine lv_iload_n S.x S.b d_Txp_access_191 rfl (lv_at hl 3 rfl) ?_
            refine lv_iload S.x S.b d_Txp_access_192 (lv_at hl 0 rfl) ?_
            refine lv_iload S.x S.b d_Txp_access_194 (lv_at hl 7 rfl) ?_
            refine px_calli (pr := [wd_Txp cs h r (fun k => if k = 3 then (some hp) else none) f3 a4 g]) (px_runSN (As := [.int p1, .int v15, .int x68_6]) (rest := [.int p2, .ref h, .ref h]) S (c_Hs_reckon l D cs  p1 v15 x68_6   _) hT (pr := [wd_Txp cs h r (fun k => if k = 3 then (some hp) else none) f3 a4 g]) (pcs := []) hw px_X.tt m5_100 m9_61n m5_99 m1_1 q_Hs_reckon ⟨Nat.le_of_ble_eq_true rfl, Nat.le_of_ble_eq_true rfl⟩ hl.1 rfl (Nat.le_of_ble_eq_true rfl) d_Txp_access_196 ⟨Nat.le_of_ble_eq_true rfl, Nat.le_of_ble_eq_true rfl⟩) hw hA (fun v24 p23 H locs hp23 hw => ?_)
            subst hp23
            have lv24 := Int32.le_toInt v24
            have uv24 := Int32.toInt_lt v24
            first | refine px_calli (pr := []) (px_runV (As := [.int p2, .int v24]) (rest := [.ref h]) S (c_Txp_keep l D cs h r g hp f3 a4 p2 v24  (show TxOk (f3 4) (f3 5) (f3 8) (f3 9) (f3 17) (f3 21) (a4 2) from ⟨lk, ⟨i2, i3⟩, ⟨i4, i5⟩, ⟨i6, i7⟩, i8, ⟨i9, i11⟩, i10, hrt⟩) _) hT (pr := []) (pcs := [wd_Txp cs h r (fun k => if k = 3 then (some hp) else none) f3 a4 g]) hw px_X.tt (px_recv hT hw 0 0 rfl rfl rfl) m9_59 m9_56 m9_58 ms_7_10 m1_35 q_Txp_keep ⟨Nat.le_of_ble_eq_true rfl, Nat.le_of_ble_eq_true rfl⟩ hl.1 rfl (Nat.le_of_ble_eq_true rfl) d_Txp_access_199 ⟨Nat.le_of_ble_eq_true rfl, Nat.le_of_ble_eq_true rfl⟩) hw hA (fun v28 p27 H locs hp27 hw => ?_) | refine px_calli (pr := []) (px_runV (As := [.int p2, .int v24]) (rest := [.ref h]) S (c_Txp_keep l D cs h r g hp f3 a4 p2 v24  (show TxOk (f3 4) (f3 5) (f3 8) (f3 9) (f3 17) (f3 21) (a4 2) from ⟨lk, ⟨by first | exact i2 | omega, by first | exact i3 | omega⟩, ⟨by first | exact i4 | omega, by first | exact i5 | omega⟩, ⟨by first | exact i6 | omega, by first | exact i7 | omega⟩, by first | exact i8 | omega, ⟨by first | exact i9 | omega, by first | exact i11 | omega⟩, by first | exact i10 | omega, hrt⟩) _) hT (pr := []) (pcs := [wd_Txp cs h r (fun k => if k = 3 then (some hp) else none) f3 a4 g]) hw px_X.tt (px_recv hT hw 0 0 rfl rfl rfl) m9_59 m9_56 m9_58 ms_7_10 m1_35 q_Txp_keep ⟨Nat.le_of_ble_eq_true rfl, Nat.le_of_ble_eq_true rfl⟩ hl.1 rfl (Nat.le_of_ble_eq_true rfl) d_Txp_access_199 ⟨Nat.le_of_ble_eq_true rfl, Nat.le_of_ble_eq_true rfl⟩) hw hA (fun v28 p27 H locs hp27 hw => ?_)
            obtain ⟨f25, a26, rfl, h35, e29, e30, e31, e32, e33, e34⟩ := hp27
            obtain ⟨lk, ⟨i2, i3⟩, ⟨i4, i5⟩, ⟨i6, i7⟩, i8, ⟨i9, i11⟩, i10, hrt⟩ := h35
            have e29 : (f25 9).toInt = (f3 9).toInt := e29
            have e30 : (f25 17).toInt = (f3 17).toInt := e30
            have e31 : (f25 21).toInt = (f3 21).toInt := e31
            have e32 : (f25 15).toInt = (f3 15).toInt := e32
            have e33 : (f25 20).toInt = (f3 20).toInt := e33
            have e34 : (f25 4).toInt = (f3 4).toInt := e34
            have lv28 := Int32.le_toInt v28
            have uv28 := Int32.toInt_lt v28
            first | refine px_callv (pr := []) (px_runV (As := [.int v28]) (rest := []) S (c_Txp_push l D cs h r g hp f25 a26 v28  (show TxOk (f25 4) (f25 5) (f25 8) (f25 9) (f25 17) (f25 21) (a26 2) from ⟨lk, ⟨i2, i3⟩, ⟨i4, i5⟩, ⟨i6, i7⟩, i8, ⟨i9, i11⟩, i10, hrt⟩) _) hT (pr := []) (pcs := [wd_Txp cs h r (fun k => if k = 3 then (some hp) else none) f25 a26 g]) hw px_X.tt (px_recv hT hw 0 0 rfl rfl rfl) m8_47 m8_44 m8_46 ms_5_6 m1_35 q_Txp_push ⟨Nat.le_of_ble_eq_true rfl, Nat.le_of_ble_eq_true rfl⟩ hl.1 rfl (Nat.le_of_ble_eq_true rfl) d_Txp_access_202 ⟨Nat.le_of_ble_eq_true rfl, Nat.le_of_ble_eq_true rfl⟩) hw hA (fun p38 H locs hp38 hw => ?_) | refine px_callv (pr := []) (px_runV (As := [.int v28]) (rest := []) S (c_Txp_push l D cs h r g hp f25 a26 v28  (show TxOk (f25 4) (f25 5) (f25 8) (f25 9) (f25 17) (f25 21) (a26 2) from ⟨lk, ⟨by first | exact i2 | omega, by first | exact i3 | omega⟩, ⟨by first | exact i4 | omega, by first | exact i5 | omega⟩, ⟨by first | exact i6 | omega, by first | exact i7 | omega⟩, by first | exact i8 | omega, ⟨by first | exact i9 | omega, by first | exact i11 | omega⟩, by first | exact i10 | omega, hrt⟩) _) hT (pr := []) (pcs := [wd_Txp cs h r (fun k => if k = 3 then (some hp) else none) f25 a26 g]) hw px_X.tt (px_recv hT hw 0 0 rfl rfl rfl) m8_47 m8_44 m8_46 ms_5_6 m1_35 q_Txp_push ⟨Nat.le_of_ble_eq_true rfl, Nat.le_of_ble_eq_true rfl⟩ hl.1 rfl (Nat.le_of_ble_eq_true rfl) d_Txp_access_202 ⟨Nat.le_of_ble_eq_true rfl, Nat.le_of_ble_eq_true rfl⟩) hw hA (fun p38 H locs hp38 hw => ?_)
            obtain ⟨f36, a37, rfl, h46, e40, e41, e42, e43, e44, e45⟩ := hp38
            obtain ⟨lk, ⟨i2, i3⟩, ⟨i4, i5⟩, ⟨i6, i7⟩, i8, ⟨i9, i11⟩, i10, hrt⟩ := h46
            have e40 : (f36 9).toInt = (f25 9).toInt := e40
            have e41 : (f36 17).toInt = (f25 17).toInt := e41
            have e42 : (f36 21).toInt = (f25 21).toInt := e42
            have e43 : (f36 15).toInt = (f25 15).toInt := e43
            have e44 : (f36 20).toInt = (f25 20).toInt := e44
            have e45 : (f36 4).toInt = (f25 4).toInt := e45
            first | exact px_vret S hr hlk hAe hw (Nat.le_of_ble_eq_true rfl) (Nat.le_of_ble_eq_true rfl) (⟨f36, a37, rfl, (show TxOk (f36 4) (f36 5) (f36 8) (f36 9) (f36 17) (f36 21) (a37 2) from ⟨lk, ⟨i2, i3⟩, ⟨i4, i5⟩, ⟨i6, i7⟩, i8, ⟨i9, i11⟩, i10, hrt⟩), (show (f36 9).toInt = (f 9).toInt from (oz_ff3084e3c1 k68_0 e40 e7 e29)), (show (f36 17).toInt = (f 17).toInt from (oz_ff3084e3c1 k68_1 e41 e8 e30)), (show (f36 21).toInt = 0 from (oz_96aae3e9d2 e42 e31 e9 k68_2 i9)), (show (f36 15).toInt = (f 15).toInt from (oz_ff3084e3c1 k68_3 e43 e10 e32)), (show (f36 20).toInt = (f 20).toInt from (oz_ff3084e3c1 k68_4 e44 e11 e33))⟩) d_Txp_access_205 | exact px_vret S hr hlk hAe hw (Nat.le_of_ble_eq_true rfl) (Nat.le_of_ble_eq_true rfl) (⟨f36, a37, rfl, (show TxOk (f36 4) (f36 5) (f36 8) (f36 9) (f36 17) (f36 21) (a37 2) from ⟨lk, ⟨by first | exact i2 | omega, by first | exact i3 | omega⟩, ⟨by first | exact i4 | omega, by first | exact i5 | omega⟩, ⟨by first | exact i6 | omega, by first | exact i7 | omega⟩, by first | exact i8 | omega, ⟨by first | exact i9 | omega, by first | exact i11 | omega⟩, by first | exact i10 | omega, hrt⟩), (show (f36 9).toInt = (f 9).toInt from by first | exact oz_ff3084e3c1 k68_0 e40 e7 e29 | omega), (show (f36 17).toInt = (f 17).toInt from by first | exact oz_ff3084e3c1 k68_1 e41 e8 e30 | omega), (show (f36 21).toInt = 0 from by first | exact oz_96aae3e9d2 e42 e31 e9 k68_2 i9 | omega), (show (f36 15).toInt = (f 15).toInt from by first | exact oz_ff3084e3c1 k68_3 e43 e10 e32 | omega), (show (f36 20).toInt = (f 20).toInt from by first | exact oz_ff3084e3c1 k68_4 e44 e11 e33 | omega)⟩) d_Txp_access_205
          · have nc22 : ¬ v20.toInt = (0 : Int) := mt (i_eq (x := v20) (y := 0)).mpr c22
            refine lv_aload_n S.x S.b d_Txp_access_179 rfl (lv_at hl 1 rfl) ?_
            refine lv_iconst (v := 3) S.x S.b d_Txp_access_180 (by decide) ?_
            refine lv_iconst (v := 0) S.x S.b d_Txp_access_181 (by decide) ?_
            first | refine px_callv (pr := []) (px_runU (As := [.int 3, .int 0]) (rest := []) S (c_finish_Txp l D cs h r g hp f3 a4 3 0  (show TxOk (f3 4) (f3 5) (f3 8) (f3 9) (f3 17) (f3 21) (a4 2) from ⟨lk, ⟨i2, i3⟩, ⟨i4, i5⟩, ⟨i6, i7⟩, i8, ⟨i9, i11⟩, i10, hrt⟩) _) hT (pr := []) (pcs := [wd_Txp cs h r (fun k => if k = 3 then (some hp) else none) f3 a4 g]) hw px_X.tt (C := "HomeSystem$TextProcess") (x := ⟨"HomeSystem$TextProcess", "finish", "(II)V"⟩) (px_recv hT hw 0 0 rfl rfl rfl) m8_89 m9_5 m9_6 m8_85 m9_7 m1_33 rfl q_HomeSystem_AnyProcess_finish ⟨Nat.le_of_ble_eq_true rfl, Nat.le_of_ble_eq_true rfl⟩ hl.1 rfl (Nat.le_of_ble_eq_true rfl) d_Txp_access_182 ⟨Nat.le_of_ble_eq_true rfl, Nat.le_of_ble_eq_true rfl⟩) hw hA (fun p49 H locs hp49 hw => ?_) | refine px_callv (pr := []) (px_runU (As := [.int 3, .int 0]) (rest := []) S (c_finish_Txp l D cs h r g hp f3 a4 3 0  (show TxOk (f3 4) (f3 5) (f3 8) (f3 9) (f3 17) (f3 21) (a4 2) from ⟨lk, ⟨by first | exact i2 | omega, by first | exact i3 | omega⟩, ⟨by first | exact i4 | omega, by first | exact i5 | omega⟩, ⟨by first | exact i6 | omega, by first | exact i7 | omega⟩, by first | exact i8 | omega, ⟨by first | exact i9 | omega, by first | exact i11 | omega⟩, by first | exact i10 | omega, hrt⟩) _) hT (pr := []) (pcs := [wd_Txp cs h r (fun k => if k = 3 then (some hp) else none) f3 a4 g]) hw px_X.tt (C := "HomeSystem$TextProcess") (x := ⟨"HomeSystem$TextProcess", "finish", "(II)V"⟩) (px_recv hT hw 0 0 rfl rfl rfl) m8_89 m9_5 m9_6 m8_85 m9_7 m1_33 rfl q_HomeSystem_AnyProcess_finish ⟨Nat.le_of_ble_eq_true rfl, Nat.le_of_ble_eq_true rfl⟩ hl.1 rfl (Nat.le_of_ble_eq_true rfl) d_Txp_access_182 ⟨Nat.le_of_ble_eq_true rfl, Nat.le_of_ble_eq_true rfl⟩) hw hA (fun p49 H locs hp49 hw => ?_)
            obtain ⟨f47, a48, rfl, h56, e51, e52, e53, e54, e55⟩ := hp49
            obtain ⟨lk, ⟨i2, i3⟩, ⟨i4, i5⟩, ⟨i6, i7⟩, i8, ⟨i9, i11⟩, i10, hrt⟩ := h56
            have e51 : (f47 9).toInt = (f3 9).toInt := e51
            have e52 : (f47 17).toInt = (f3 17).toInt := e52
            have e53 : (f47 21).toInt = 0 := e53
            have e54 : (f47 15).toInt = (f3 15).toInt := e54
            have e55 : (f47 20).toInt = (f3 20).toInt := e55
            refine lv_goto (tgt := 205) S.x S.b d_Txp_access_185 (by decide) ?_
            first | exact px_vret S hr hlk hAe hw (Nat.le_of_ble_eq_true rfl) (Nat.le_of_ble_eq_true rfl) (⟨f47, a48, rfl, (show TxOk (f47 4) (f47 5) (f47 8) (f47 9) (f47 17) (f47 21) (a48 2) from ⟨lk, ⟨i2, i3⟩, ⟨i4, i5⟩, ⟨i6, i7⟩, i8, ⟨i9, i11⟩, i10, hrt⟩), (show (f47 9).toInt = (f 9).toInt from (oz_e13fc83238 k68_0 e51 e7)), (show (f47 17).toInt = (f 17).toInt from (oz_e13fc83238 k68_1 e52 e8)), (show (f47 21).toInt = 0 from e53), (show (f47 15).toInt = (f 15).toInt from (oz_e13fc83238 k68_3 e54 e10)), (show (f47 20).toInt = (f 20).toInt from (oz_e13fc83238 k68_4 e55 e11))⟩) d_Txp_access_205 | exact px_vret S hr hlk hAe hw (Nat.le_of_ble_eq_true rfl) (Nat.le_of_ble_eq_true rfl) (⟨f47, a48, rfl, (show TxOk (f47 4) (f47 5) (f47 8) (f47 9) (f47 17) (f47 21) (a48 2) from ⟨lk, ⟨by first | exact i2 | omega, by first | exact i3 | omega⟩, ⟨by first | exact i4 | omega, by first | exact i5 | omega⟩, ⟨by first | exact i6 | omega, by first | exact i7 | omega⟩, by first | exact i8 | omega, ⟨by first | exact i9 | omega, by first | exact i11 | omega⟩, by first | exact i10 | omega, hrt⟩), (show (f47 9).toInt = (f 9).toInt from by first | exact oz_e13fc83238 k68_0 e51 e7 | omega), (show (f47 17).toInt = (f 17).toInt from by first | exact oz_e13fc83238 k68_1 e52 e8 | omega), (show (f47 21).toInt = 0 from by first | exact e53 | omega), (show (f47 15).toInt = (f 15).toInt from by first | exact oz_e13fc83238 k68_3 e54 e10 | omega), (show (f47 20).toInt = (f 20).toInt from by first | exact oz_e13fc83238 k68_4 e55 e11 | omega)⟩) d_Txp_access_205
        · have nc18 : p0.toInt = (5 : Int) := (i_eq (x := p0) (y := 5)).mp c18
          refine lv_aload_n S.x S.b d_Txp_access_126 rfl (lv_at hl 1 rfl) ?_
          refine lv_iload_n S.x S.b d_Txp_access_127 rfl (lv_at hl 4 rfl) ?_
          refine lv_iload_n S.x S.b d_Txp_access_128 rfl (lv_at hl 3 rfl) ?_
          refine lv_iconst (v := 1) S.x S.b d_Txp_access_129 (by decide) ?_
          refine lv_iand S.x S.b d_Txp_access_130 ?_
          refine lv_topi (fun z57 ez57 => ?_)
          have lz57 := Int32.le_toInt z57
          have uz57 := Int32.toInt_lt z57
          have bz57 := i_andm p1 (m := 1) 1 (by decide) (by decide)
          rw [← ez57] at bz57
          have wz57 : 0 ≤ z57.toInt ∧ z57.toInt ≤ 1 := by simp only [Nat.reducePow, Int.reducePow] at bz57; omega
          refine lv_if_eq (tgt := 141) S.x S.b d_Txp_access_131 (by decide) (fun c58 => ?_) (fun c58 => ?_)
          · have nc58 : z57.toInt = (0 : Int) := (i_eq (x := z57) (y := 0)).mp c58
            refine lv_iload S.x S.b d_Txp_access_141 (lv_at hl 0 rfl) ?_
            refine lv_iconst (v := 1) S.x S.b d_Txp_access_143 (by decide) ?_
            refine lv_iadd S.x S.b d_Txp_access_144 ?_
            refine lv_topi (fun z59 ez59 => ?_)
            have tz59 : z59.toInt = (v15.toInt + (1 : Int) + 2147483648) % 4294967296 - 2147483648 := by rw [ez59]; exact i_add v15 1
            have lz59 := Int32.le_toInt z59
            have uz59 := Int32.toInt_lt z59
            try replace tz59 : z59.toInt = v15.toInt + (1 : Int) := by omega
            first | refine px_calli (pr := []) (px_runV (As := [.int p2, .int z59]) (rest := []) S (c_Txp_keep l D cs h r g hp f3 a4 p2 z59  (show TxOk (f3 4) (f3 5) (f3 8) (f3 9) (f3 17) (f3 21) (a4 2) from ⟨lk, ⟨i2, i3⟩, ⟨i4, i5⟩, ⟨i6, i7⟩, i8, ⟨i9, i11⟩, i10, hrt⟩) _) hT (pr := []) (pcs := [wd_Txp cs h r (fun k => if k = 3 then (some hp) else none) f3 a4 g]) hw px_X.tt (px_recv hT hw 0 0 rfl rfl rfl) m9_59 m9_56 m9_58 ms_7_10 m1_35 q_Txp_keep ⟨Nat.le_of_ble_eq_true rfl, Nat.le_of_ble_eq_true rfl⟩ hl.1 rfl (Nat.le_of_ble_eq_true rfl) d_Txp_access_145 ⟨Nat.le_of_ble_eq_true rfl, Nat.le_of_ble_eq_true rfl⟩) hw hA (fun v63 p62 H locs hp62 hw => ?_) | refine px_calli (pr := []) (px_runV (As := [.int p2, .int z59]) (rest := []) S (c_Txp_keep l D cs h r g hp f3 a4 p2 z59  (show TxOk (f3 4) (f3 5) (f3 8) (f3 9) (f3 17) (f3 21) (a4 2) from ⟨lk, ⟨by first | exact i2 | omega, by first | exact i3 | omega⟩, ⟨by first | exact i4 | omega, by first | exact i5 | omega⟩, ⟨by first | exact i6 | omega, by first | exact i7 | omega⟩, by first | exact i8 | omega, ⟨by first | exact i9 | omega, by first | exact i11 | omega⟩, by first | exact i10 | omega, hrt⟩) _) hT (pr := []) (pcs := [wd_Txp cs h r (fun k => if k = 3 then (some hp) else none) f3 a4 g]) hw px_X.tt (px_recv hT hw 0 0 rfl rfl rfl) m9_59 m9_56 m9_58 ms_7_10 m1_35 q_Txp_keep ⟨Nat.le_of_ble_eq_true rfl, Nat.le_of_ble_eq_true rfl⟩ hl.1 rfl (Nat.le_of_ble_eq_true rfl) d_Txp_access_145 ⟨Nat.le_of_ble_eq_true rfl, Nat.le_of_ble_eq_true rfl⟩) hw hA (fun v63 p62 H locs hp62 hw => ?_)
            obtain ⟨f60, a61, rfl, h70, e64, e65, e66, e67, e68, e69⟩ := hp62
            obtain ⟨lk, ⟨i2, i3⟩, ⟨i4, i5⟩, ⟨i6, i7⟩, i8, ⟨i9, i11⟩, i10, hrt⟩ := h70
            have e64 : (f60 9).toInt = (f3 9).toInt := e64
            have e65 : (f60 17).toInt = (f3 17).toInt := e65
            have e66 : (f60 21).toInt = (f3 21).toInt := e66
            have e67 : (f60 15).toInt = (f3 15).toInt := e67
            have e68 : (f60 20).toInt = (f3 20).toInt := e68
            have e69 : (f60 4).toInt = (f3 4).toInt := e69
            have lv63 := Int32.le_toInt v63
            have uv63 := Int32.toInt_lt v63
            refine lv_istore (lv' := [(9, .int v63), (8, .int v15), (0, .ref h), (1, .int p0), (2, .int p1), (3, .int p2), (4, .int p3), (5, .int p4), (6, .int x68_6), (7, .int x68_7)]) S.x S.b d_Txp_access_148 hl (by decide) rfl (fun ls hl => ?_)
            refine lv_aload_n S.x S.b d_Txp_access_150 rfl (lv_at hl 2 rfl) ?_
            refine lv_iload_n S.x S.b d_Txp_access_151 rfl (lv_at hl 4 rfl) ?_
            refine lv_iconst (v := 2) S.x S.b d_Txp_access_152 (by decide) ?_
            refine lv_iand S.x S.b d_Txp_access_153 ?_
            refine lv_topi (fun z71 ez71 => ?_)
            have lz71 := Int32.le_toInt z71
            have uz71 := Int32.toInt_lt z71
            refine lv_if_eq (tgt := 162) S.x S.b d_Txp_access_154 (by decide) (fun c72 => ?_) (fun c72 => ?_)
            · have nc72 : z71.toInt = (0 : Int) := (i_eq (x := z71) (y := 0)).mp c72
              refine lv_iload S.x S.b d_Txp_access_162 (lv_at hl 0 rfl) ?_
              first | refine px_callv (pr := []) (px_runV (As := [.int v63]) (rest := []) S (c_Txp_push l D cs h r g hp f60 a61 v63  (show TxOk (f60 4) (f60 5) (f60 8) (f60 9) (f60 17) (f60 21) (a61 2) from ⟨lk, ⟨i2, i3⟩, ⟨i4, i5⟩, ⟨i6, i7⟩, i8, ⟨i9, i11⟩, i10, hrt⟩) _) hT (pr := []) (pcs := [wd_Txp cs h r (fun k => if k = 3 then (some hp) else none) f60 a61 g]) hw px_X.tt (px_recv hT hw 0 0 rfl rfl rfl) m8_47 m8_44 m8_46 ms_5_6 m1_35 q_Txp_push ⟨Nat.le_of_ble_eq_true rfl, Nat.le_of_ble_eq_true rfl⟩ hl.1 rfl (Nat.le_of_ble_eq_true rfl) d_Txp_access_164 ⟨Nat.le_of_ble_eq_true rfl, Nat.le_of_ble_eq_true rfl⟩) hw hA (fun p75 H locs hp75 hw => ?_) | refine px_callv (pr := []) (px_runV (As := [.int v63]) (rest := []) S (c_Txp_push l D cs h r g hp f60 a61 v63  (show TxOk (f60 4) (f60 5) (f60 8) (f60 9) (f60 17) (f60 21) (a61 2) from ⟨lk, ⟨by first | exact i2 | omega, by first | exact i3 | omega⟩, ⟨by first | exact i4 | omega, by first | exact i5 | omega⟩, ⟨by first | exact i6 | omega, by first | exact i7 | omega⟩, by first | exact i8 | omega, ⟨by first | exact i9 | omega, by first | exact i11 | omega⟩, by first | exact i10 | omega, hrt⟩) _) hT (pr := []) (pcs := [wd_Txp cs h r (fun k => if k = 3 then (some hp) else none) f60 a61 g]) hw px_X.tt (px_recv hT hw 0 0 rfl rfl rfl) m8_47 m8_44 m8_46 ms_5_6 m1_35 q_Txp_push ⟨Nat.le_of_ble_eq_true rfl, Nat.le_of_ble_eq_true rfl⟩ hl.1 rfl (Nat.le_of_ble_eq_true rfl) d_Txp_access_164 ⟨Nat.le_of_ble_eq_true rfl, Nat.le_of_ble_eq_true rfl⟩) hw hA (fun p75 H locs hp75 hw => ?_)
              obtain ⟨f73, a74, rfl, h83, e77, e78, e79, e80, e81, e82⟩ := hp75
              obtain ⟨lk, ⟨i2, i3⟩, ⟨i4, i5⟩, ⟨i6, i7⟩, i8, ⟨i9, i11⟩, i10, hrt⟩ := h83
              have e77 : (f73 9).toInt = (f60 9).toInt := e77
              have e78 : (f73 17).toInt = (f60 17).toInt := e78
              have e79 : (f73 21).toInt = (f60 21).toInt := e79
              have e80 : (f73 15).toInt = (f60 15).toInt := e80
              have e81 : (f73 20).toInt = (f60 20).toInt := e81
              have e82 : (f73 4).toInt = (f60 4).toInt := e82
              refine lv_goto (tgt := 205) S.x S.b d_Txp_access_167 (by decide) ?_
              first | exact px_vret S hr hlk hAe hw (Nat.le_of_ble_eq_true rfl) (Nat.le_of_ble_eq_true rfl) (⟨f73, a74, rfl, (show TxOk (f73 4) (f73 5) (f73 8) (f73 9) (f73 17) (f73 21) (a74 2) from ⟨lk, ⟨i2, i3⟩, ⟨i4, i5⟩, ⟨i6, i7⟩, i8, ⟨i9, i11⟩, i10, hrt⟩), (show (f73 9).toInt = (f 9).toInt from (oz_ff3084e3c1 k68_0 e77 e7 e64)), (show (f73 17).toInt = (f 17).toInt from (oz_ff3084e3c1 k68_1 e78 e8 e65)), (show (f73 21).toInt = 0 from (oz_96aae3e9d2 e79 e66 e9 k68_2 i9)), (show (f73 15).toInt = (f 15).toInt from (oz_ff3084e3c1 k68_3 e80 e10 e67)), (show (f73 20).toInt = (f 20).toInt from (oz_ff3084e3c1 k68_4 e81 e11 e68))⟩) d_Txp_access_205 | exact px_vret S hr hlk hAe hw (Nat.le_of_ble_eq_true rfl) (Nat.le_of_ble_eq_true rfl) (⟨f73, a74, rfl, (show TxOk (f73 4) (f73 5) (f73 8) (f73 9) (f73 17) (f73 21) (a74 2) from ⟨lk, ⟨by first | exact i2 | omega, by first | exact i3 | omega⟩, ⟨by first | exact i4 | omega, by first | exact i5 | omega⟩, ⟨by first | exact i6 | omega, by first | exact i7 | omega⟩, by first | exact i8 | omega, ⟨by first | exact i9 | omega, by first | exact i11 | omega⟩, by first | exact i10 | omega, hrt⟩), (show (f73 9).toInt = (f 9).toInt from by first | exact oz_ff3084e3c1 k68_0 e77 e7 e64 | omega), (show (f73 17).toInt = (f 17).toInt from by first | exact oz_ff3084e3c1 k68_1 e78 e8 e65 | omega), (show (f73 21).toInt = 0 from by first | exact oz_96aae3e9d2 e79 e66 e9 k68_2 i9 | omega), (show (f73 15).toInt = (f 15).toInt from by first | exact oz_ff3084e3c1 k68_3 e80 e10 e67 | omega), (show (f73 20).toInt = (f 20).toInt from by first | exact oz_ff3084e3c1 k68_4 e81 e11 e68 | omega)⟩) d_Txp_access_205
            · have nc72 : ¬ z71.toInt = (0 : Int) := mt (i_eq (x := z71) (y := 0)).mpr c72
              refine lv_iload S.x S.b d_Txp_access_157 (lv_at hl 1 rfl) ?_
              refine lv_goto (tgt := 164) S.x S.b d_Txp_access_159 (by decide) ?_
              first | refine px_callv (pr := []) (px_runV (As := [.int v15]) (rest := []) S (c_Txp_push l D cs h r g hp f60 a61 v15  (show TxOk (f60 4) (f60 5) (f60 8) (f60 9) (f60 17) (f60 21) (a61 2) from ⟨lk, ⟨i2, i3⟩, ⟨i4, i5⟩, ⟨i6, i7⟩, i8, ⟨i9, i11⟩, i10, hrt⟩) _) hT (pr := []) (pcs := [wd_Txp cs h r (fun k => if k = 3 then (some hp) else none) f60 a61 g]) hw px_X.tt (px_recv hT hw 0 0 rfl rfl rfl) m8_47 m8_44 m8_46 ms_5_6 m1_35 q_Txp_push ⟨Nat.le_of_ble_eq_true rfl, Nat.le_of_ble_eq_true rfl⟩ hl.1 rfl (Nat.le_of_ble_eq_true rfl) d_Txp_access_164 ⟨Nat.le_of_ble_eq_true rfl, Nat.le_of_ble_eq_true rfl⟩) hw hA (fun p86 H locs hp86 hw => ?_) | refine px_callv (pr := []) (px_runV (As := [.int v15]) (rest := []) S (c_Txp_push l D cs h r g hp f60 a61 v15  (show TxOk (f60 4) (f60 5) (f60 8) (f60 9) (f60 17) (f60 21) (a61 2) from ⟨lk, ⟨by first | exact i2 | omega, by first | exact i3 | omega⟩, ⟨by first | exact i4 | omega, by first | exact i5 | omega⟩, ⟨by first | exact i6 | omega, by first | exact i7 | omega⟩, by first | exact i8 | omega, ⟨by first | exact i9 | omega, by first | exact i11 | omega⟩, by first | exact i10 | omega, hrt⟩) _) hT (pr := []) (pcs := [wd_Txp cs h r (fun k => if k = 3 then (some hp) else none) f60 a61 g]) hw px_X.tt (px_recv hT hw 0 0 rfl rfl rfl) m8_47 m8_44 m8_46 ms_5_6 m1_35 q_Txp_push ⟨Nat.le_of_ble_eq_true rfl, Nat.le_of_ble_eq_true rfl⟩ hl.1 rfl (Nat.le_of_ble_eq_true rfl) d_Txp_access_164 ⟨Nat.le_of_ble_eq_true rfl, Nat.le_of_ble_eq_true rfl⟩) hw hA (fun p86 H locs hp86 hw => ?_)
              obtain ⟨f84, a85, rfl, h94, e88, e89, e90, e91, e92, e93⟩ := hp86
              obtain ⟨lk, ⟨i2, i3⟩, ⟨i4, i5⟩, ⟨i6, i7⟩, i8, ⟨i9, i11⟩, i10, hrt⟩ := h94
              have e88 : (f84 9).toInt = (f60 9).toInt := e88
              have e89 : (f84 17).toInt = (f60 17).toInt := e89
              have e90 : (f84 21).toInt = (f60 21).toInt := e90
              have e91 : (f84 15).toInt = (f60 15).toInt := e91
              have e92 : (f84 20).toInt = (f60 20).toInt := e92
              have e93 : (f84 4).toInt = (f60 4).toInt := e93
              refine lv_goto (tgt := 205) S.x S.b d_Txp_access_167 (by decide) ?_
              first | exact px_vret S hr hlk hAe hw (Nat.le_of_ble_eq_true rfl) (Nat.le_of_ble_eq_true rfl) (⟨f84, a85, rfl, (show TxOk (f84 4) (f84 5) (f84 8) (f84 9) (f84 17) (f84 21) (a85 2) from ⟨lk, ⟨i2, i3⟩, ⟨i4, i5⟩, ⟨i6, i7⟩, i8, ⟨i9, i11⟩, i10, hrt⟩), (show (f84 9).toInt = (f 9).toInt from (oz_ff3084e3c1 k68_0 e88 e7 e64)), (show (f84 17).toInt = (f 17).toInt from (oz_ff3084e3c1 k68_1 e89 e8 e65)), (show (f84 21).toInt = 0 from (oz_96aae3e9d2 e90 e66 e9 k68_2 i9)), (show (f84 15).toInt = (f 15).toInt from (oz_ff3084e3c1 k68_3 e91 e10 e67)), (show (f84 20).toInt = (f 20).toInt from (oz_ff3084e3c1 k68_4 e92 e11 e68))⟩) d_Txp_access_205 | exact px_vret S hr hlk hAe hw (Nat.le_of_ble_eq_true rfl) (Nat.le_of_ble_eq_true rfl) (⟨f84, a85, rfl, (show TxOk (f84 4) (f84 5) (f84 8) (f84 9) (f84 17) (f84 21) (a85 2) from ⟨lk, ⟨by first | exact i2 | omega, by first | exact i3 | omega⟩, ⟨by first | exact i4 | omega, by first | exact i5 | omega⟩, ⟨by first | exact i6 | omega, by first | exact i7 | omega⟩, by first | exact i8 | omega, ⟨by first | exact i9 | omega, by first | exact i11 | omega⟩, by first | exact i10 | omega, hrt⟩), (show (f84 9).toInt = (f 9).toInt from by first | exact oz_ff3084e3c1 k68_0 e88 e7 e64 | omega), (show (f84 17).toInt = (f 17).toInt from by first | exact oz_ff3084e3c1 k68_1 e89 e8 e65 | omega), (show (f84 21).toInt = 0 from by first | exact oz_96aae3e9d2 e90 e66 e9 k68_2 i9 | omega), (show (f84 15).toInt = (f 15).toInt from by first | exact oz_ff3084e3c1 k68_3 e91 e10 e67 | omega), (show (f84 20).toInt = (f 20).toInt from by first | exact oz_ff3084e3c1 k68_4 e92 e11 e68 | omega)⟩) d_Txp_access_205
          · have nc58 : ¬ z57.toInt = (0 : Int) := mt (i_eq (x := z57) (y := 0)).mpr c58
            refine lv_iload S.x S.b d_Txp_access_134 (lv_at hl 0 rfl) ?_
            refine lv_iconst (v := 1) S.x S.b d_Txp_access_136 (by decide) ?_
            refine lv_isub S.x S.b d_Txp_access_137 ?_
            refine lv_topi (fun z95 ez95 => ?_)
            have tz95 : z95.toInt = (v15.toInt - (1 : Int) + 2147483648) % 4294967296 - 2147483648 := by rw [ez95]; exact i_sub v15 1
            have lz95 := Int32.le_toInt z95
            have uz95 := Int32.toInt_lt z95
            try replace tz95 : z95.toInt = v15.toInt - (1 : Int) := by omega
            refine lv_goto (tgt := 145) S.x S.b d_Txp_access_138 (by decide) ?_
            first | refine px_calli (pr := []) (px_runV (As := [.int p2, .int z95]) (rest := []) S (c_Txp_keep l D cs h r g hp f3 a4 p2 z95  (show TxOk (f3 4) (f3 5) (f3 8) (f3 9) (f3 17) (f3 21) (a4 2) from ⟨lk, ⟨i2, i3⟩, ⟨i4, i5⟩, ⟨i6, i7⟩, i8, ⟨i9, i11⟩, i10, hrt⟩) _) hT (pr := []) (pcs := [wd_Txp cs h r (fun k => if k = 3 then (some hp) else none) f3 a4 g]) hw px_X.tt (px_recv hT hw 0 0 rfl rfl rfl) m9_59 m9_56 m9_58 ms_7_10 m1_35 q_Txp_keep ⟨Nat.le_of_ble_eq_true rfl, Nat.le_of_ble_eq_true rfl⟩ hl.1 rfl (Nat.le_of_ble_eq_true rfl) d_Txp_access_145 ⟨Nat.le_of_ble_eq_true rfl, Nat.le_of_ble_eq_true rfl⟩) hw hA (fun v99 p98 H locs hp98 hw => ?_) | refine px_calli (pr := []) (px_runV (As := [.int p2, .int z95]) (rest := []) S (c_Txp_keep l D cs h r g hp f3 a4 p2 z95  (show TxOk (f3 4) (f3 5) (f3 8) (f3 9) (f3 17) (f3 21) (a4 2) from ⟨lk, ⟨by first | exact i2 | omega, by first | exact i3 | omega⟩, ⟨by first | exact i4 | omega, by first | exact i5 | omega⟩, ⟨by first | exact i6 | omega, by first | exact i7 | omega⟩, by first | exact i8 | omega, ⟨by first | exact i9 | omega, by first | exact i11 | omega⟩, by first | exact i10 | omega, hrt⟩) _) hT (pr := []) (pcs := [wd_Txp cs h r (fun k => if k = 3 then (some hp) else none) f3 a4 g]) hw px_X.tt (px_recv hT hw 0 0 rfl rfl rfl) m9_59 m9_56 m9_58 ms_7_10 m1_35 q_Txp_keep ⟨Nat.le_of_ble_eq_true rfl, Nat.le_of_ble_eq_true rfl⟩ hl.1 rfl (Nat.le_of_ble_eq_true rfl) d_Txp_access_145 ⟨Nat.le_of_ble_eq_true rfl, Nat.le_of_ble_eq_true rfl⟩) hw hA (fun v99 p98 H locs hp98 hw => ?_)
            obtain ⟨f96, a97, rfl, h106, e100, e101, e102, e103, e104, e105⟩ := hp98
            obtain ⟨lk, ⟨i2, i3⟩, ⟨i4, i5⟩, ⟨i6, i7⟩, i8, ⟨i9, i11⟩, i10, hrt⟩ := h106
            have e100 : (f96 9).toInt = (f3 9).toInt := e100
            have e101 : (f96 17).toInt = (f3 17).toInt := e101
            have e102 : (f96 21).toInt = (f3 21).toInt := e102
            have e103 : (f96 15).toInt = (f3 15).toInt := e103
            have e104 : (f96 20).toInt = (f3 20).toInt := e104
            have e105 : (f96 4).toInt = (f3 4).toInt := e105
            have lv99 := Int32.le_toInt v99
            have uv99 := Int32.toInt_lt v99
            refine lv_istore (lv' := [(9, .int v99), (8, .int v15), (0, .ref h), (1, .int p0), (2, .int p1), (3, .int p2), (4, .int p3), (5, .int p4), (6, .int x68_6), (7, .int x68_7)]) S.x S.b d_Txp_access_148 hl (by decide) rfl (fun ls hl => ?_)
            refine lv_aload_n S.x S.b d_Txp_access_150 rfl (lv_at hl 2 rfl) ?_
            refine lv_iload_n S.x S.b d_Txp_access_151 rfl (lv_at hl 4 rfl) ?_
            refine lv_iconst (v := 2) S.x S.b d_Txp_access_152 (by decide) ?_
            refine lv_iand S.x S.b d_Txp_access_153 ?_
            refine lv_topi (fun z107 ez107 => ?_)
            have lz107 := Int32.le_toInt z107
            have uz107 := Int32.toInt_lt z107
            refine lv_if_eq (tgt := 162) S.x S.b d_Txp_access_154 (by decide) (fun c108 => ?_) (fun c108 => ?_)
            · have nc108 : z107.toInt = (0 : Int) := (i_eq (x := z107) (y := 0)).mp c108
              refine lv_iload S.x S.b d_Txp_access_162 (lv_at hl 0 rfl) ?_
              first | refine px_callv (pr := []) (px_runV (As := [.int v99]) (rest := []) S (c_Txp_push l D cs h r g hp f96 a97 v99  (show TxOk (f96 4) (f96 5) (f96 8) (f96 9) (f96 17) (f96 21) (a97 2) from ⟨lk, ⟨i2, i3⟩, ⟨i4, i5⟩, ⟨i6, i7⟩, i8, ⟨i9, i11⟩, i10, hrt⟩) _) hT (pr := []) (pcs := [wd_Txp cs h r (fun k => if k = 3 then (some hp) else none) f96 a97 g]) hw px_X.tt (px_recv hT hw 0 0 rfl rfl rfl) m8_47 m8_44 m8_46 ms_5_6 m1_35 q_Txp_push ⟨Nat.le_of_ble_eq_true rfl, Nat.le_of_ble_eq_true rfl⟩ hl.1 rfl (Nat.le_of_ble_eq_true rfl) d_Txp_access_164 ⟨Nat.le_of_ble_eq_true rfl, Nat.le_of_ble_eq_true rfl⟩) hw hA (fun p111 H locs hp111 hw => ?_) | refine px_callv (pr := []) (px_runV (As := [.int v99]) (rest := []) S (c_Txp_push l D cs h r g hp f96 a97 v99  (show TxOk (f96 4) (f96 5) (f96 8) (f96 9) (f96 17) (f96 21) (a97 2) from ⟨lk, ⟨by first | exact i2 | omega, by first | exact i3 | omega⟩, ⟨by first | exact i4 | omega, by first | exact i5 | omega⟩, ⟨by first | exact i6 | omega, by first | exact i7 | omega⟩, by first | exact i8 | omega, ⟨by first | exact i9 | omega, by first | exact i11 | omega⟩, by first | exact i10 | omega, hrt⟩) _) hT (pr := []) (pcs := [wd_Txp cs h r (fun k => if k = 3 then (some hp) else none) f96 a97 g]) hw px_X.tt (px_recv hT hw 0 0 rfl rfl rfl) m8_47 m8_44 m8_46 ms_5_6 m1_35 q_Txp_push ⟨Nat.le_of_ble_eq_true rfl, Nat.le_of_ble_eq_true rfl⟩ hl.1 rfl (Nat.le_of_ble_eq_true rfl) d_Txp_access_164 ⟨Nat.le_of_ble_eq_true rfl, Nat.le_of_ble_eq_true rfl⟩) hw hA (fun p111 H locs hp111 hw => ?_)
              obtain ⟨f109, a110, rfl, h119, e113, e114, e115, e116, e117, e118⟩ := hp111
              obtain ⟨lk, ⟨i2, i3⟩, ⟨i4, i5⟩, ⟨i6, i7⟩, i8, ⟨i9, i11⟩, i10, hrt⟩ := h119
              have e113 : (f109 9).toInt = (f96 9).toInt := e113
              have e114 : (f109 17).toInt = (f96 17).toInt := e114
              have e115 : (f109 21).toInt = (f96 21).toInt := e115
              have e116 : (f109 15).toInt = (f96 15).toInt := e116
              have e117 : (f109 20).toInt = (f96 20).toInt := e117
              have e118 : (f109 4).toInt = (f96 4).toInt := e118
              refine lv_goto (tgt := 205) S.x S.b d_Txp_access_167 (by decide) ?_
              first | exact px_vret S hr hlk hAe hw (Nat.le_of_ble_eq_true rfl) (Nat.le_of_ble_eq_true rfl) (⟨f109, a110, rfl, (show TxOk (f109 4) (f109 5) (f109 8) (f109 9) (f109 17) (f109 21) (a110 2) from ⟨lk, ⟨i2, i3⟩, ⟨i4, i5⟩, ⟨i6, i7⟩, i8, ⟨i9, i11⟩, i10, hrt⟩), (show (f109 9).toInt = (f 9).toInt from (oz_ff3084e3c1 k68_0 e113 e7 e100)), (show (f109 17).toInt = (f 17).toInt from (oz_ff3084e3c1 k68_1 e114 e8 e101)), (show (f109 21).toInt = 0 from (oz_96aae3e9d2 e115 e102 e9 k68_2 i9)), (show (f109 15).toInt = (f 15).toInt from (oz_ff3084e3c1 k68_3 e116 e10 e103)), (show (f109 20).toInt = (f 20).toInt from (oz_ff3084e3c1 k68_4 e117 e11 e104))⟩) d_Txp_access_205 | exact px_vret S hr hlk hAe hw (Nat.le_of_ble_eq_true rfl) (Nat.le_of_ble_eq_true rfl) (⟨f109, a110, rfl, (show TxOk (f109 4) (f109 5) (f109 8) (f109 9) (f109 17) (f109 21) (a110 2) from ⟨lk, ⟨by first | exact i2 | omega, by first | exact i3 | omega⟩, ⟨by first | exact i4 | omega, by first | exact i5 | omega⟩, ⟨by first | exact i6 | omega, by first | exact i7 | omega⟩, by first | exact i8 | omega, ⟨by first | exact i9 | omega, by first | exact i11 | omega⟩, by first | exact i10 | omega, hrt⟩), (show (f109 9).toInt = (f 9).toInt from by first | exact oz_ff3084e3c1 k68_0 e113 e7 e100 | omega), (show (f109 17).toInt = (f 17).toInt from by first | exact oz_ff3084e3c1 k68_1 e114 e8 e101 | omega), (show (f109 21).toInt = 0 from by first | exact oz_96aae3e9d2 e115 e102 e9 k68_2 i9 | omega), (show (f109 15).toInt = (f 15).toInt from by first | exact oz_ff3084e3c1 k68_3 e116 e10 e103 | omega), (show (f109 20).toInt = (f 20).toInt from by first | exact oz_ff3084e3c1 k68_4 e117 e11 e104 | omega)⟩) d_Txp_access_205
            · have nc108 : ¬ z107.toInt = (0 : Int) := mt (i_eq (x := z107) (y := 0)).mpr c108
              refine lv_iload S.x S.b d_Txp_access_157 (lv_at hl 1 rfl) ?_
              refine lv_goto (tgt := 164) S.x S.b d_Txp_access_159 (by decide) ?_
              first | refine px_callv (pr := []) (px_runV (As := [.int v15]) (rest := []) S (c_Txp_push l D cs h r g hp f96 a97 v15  (show TxOk (f96 4) (f96 5) (f96 8) (f96 9) (f96 17) (f96 21) (a97 2) from ⟨lk, ⟨i2, i3⟩, ⟨i4, i5⟩, ⟨i6, i7⟩, i8, ⟨i9, i11⟩, i10, hrt⟩) _) hT (pr := []) (pcs := [wd_Txp cs h r (fun k => if k = 3 then (some hp) else none) f96 a97 g]) hw px_X.tt (px_recv hT hw 0 0 rfl rfl rfl) m8_47 m8_44 m8_46 ms_5_6 m1_35 q_Txp_push ⟨Nat.le_of_ble_eq_true rfl, Nat.le_of_ble_eq_true rfl⟩ hl.1 rfl (Nat.le_of_ble_eq_true rfl) d_Txp_access_164 ⟨Nat.le_of_ble_eq_true rfl, Nat.le_of_ble_eq_true rfl⟩) hw hA (fun p122 H locs hp122 hw => ?_) | refine px_callv (pr := []) (px_runV (As := [.int v15]) (rest := []) S (c_Txp_push l D cs h r g hp f96 a97 v15  (show TxOk (f96 4) (f96 5) (f96 8) (f96 9) (f96 17) (f96 21) (a97 2) from ⟨lk, ⟨by first | exact i2 | omega, by first | exact i3 | omega⟩, ⟨by first | exact i4 | omega, by first | exact i5 | omega⟩, ⟨by first | exact i6 | omega, by first | exact i7 | omega⟩, by first | exact i8 | omega, ⟨by first | exact i9 | omega, by first | exact i11 | omega⟩, by first | exact i10 | omega, hrt⟩) _) hT (pr := []) (pcs := [wd_Txp cs h r (fun k => if k = 3 then (some hp) else none) f96 a97 g]) hw px_X.tt (px_recv hT hw 0 0 rfl rfl rfl) m8_47 m8_44 m8_46 ms_5_6 m1_35 q_Txp_push ⟨Nat.le_of_ble_eq_true rfl, Nat.le_of_ble_eq_true rfl⟩ hl.1 rfl (Nat.le_of_ble_eq_true rfl) d_Txp_access_164 ⟨Nat.le_of_ble_eq_true rfl, Nat.le_of_ble_eq_true rfl⟩) hw hA (fun p122 H locs hp122 hw => ?_)
              obtain ⟨f120, a121, rfl, h130, e124, e125, e126, e127, e128, e129⟩ := hp122
              obtain ⟨lk, ⟨i2, i3⟩, ⟨i4, i5⟩, ⟨i6, i7⟩, i8, ⟨i9, i11⟩, i10, hrt⟩ := h130
              have e124 : (f120 9).toInt = (f96 9).toInt := e124
              have e125 : (f120 17).toInt = (f96 17).toInt := e125
              have e126 : (f120 21).toInt = (f96 21).toInt := e126
              have e127 : (f120 15).toInt = (f96 15).toInt := e127
              have e128 : (f120 20).toInt = (f96 20).toInt := e128
              have e129 : (f120 4).toInt = (f96 4).toInt := e129
              refine lv_goto (tgt := 205) S.x S.b d_Txp_access_167 (by decide) ?_
              first | exact px_vret S hr hlk hAe hw (Nat.le_of_ble_eq_true rfl) (Nat.le_of_ble_eq_true rfl) (⟨f120, a121, rfl, (show TxOk (f120 4) (f120 5) (f120 8) (f120 9) (f120 17) (f120 21) (a121 2) from ⟨lk, ⟨i2, i3⟩, ⟨i4, i5⟩, ⟨i6, i7⟩, i8, ⟨i9, i11⟩, i10, hrt⟩), (show (f120 9).toInt = (f 9).toInt from (oz_ff3084e3c1 k68_0 e124 e7 e100)), (show (f120 17).toInt = (f 17).toInt from (oz_ff3084e3c1 k68_1 e125 e8 e101)), (show (f120 21).toInt = 0 from (oz_96aae3e9d2 e126 e102 e9 k68_2 i9)), (show (f120 15).toInt = (f 15).toInt from (oz_ff3084e3c1 k68_3 e127 e10 e103)), (show (f120 20).toInt = (f 20).toInt from (oz_ff3084e3c1 k68_4 e128 e11 e104))⟩) d_Txp_access_205 | exact px_vret S hr hlk hAe hw (Nat.le_of_ble_eq_true rfl) (Nat.le_of_ble_eq_true rfl) (⟨f120, a121, rfl, (show TxOk (f120 4) (f120 5) (f120 8) (f120 9) (f120 17) (f120 21) (a121 2) from ⟨lk, ⟨by first | exact i2 | omega, by first | exact i3 | omega⟩, ⟨by first | exact i4 | omega, by first | exact i5 | omega⟩, ⟨by first | exact i6 | omega, by first | exact i7 | omega⟩, by first | exact i8 | omega, ⟨by first | exact i9 | omega, by first | exact i11 | omega⟩, by first | exact i10 | omega, hrt⟩), (show (f120 9).toInt = (f 9).toInt from by first | exact oz_ff3084e3c1 k68_0 e124 e7 e100 | omega), (show (f120 17).toInt = (f 17).toInt from by first | exact oz_ff3084e3c1 k68_1 e125 e8 e101 | omega), (show (f120 21).toInt = 0 from by first | exact oz_96aae3e9d2 e126 e102 e9 k68_2 i9 | omega), (show (f120 15).toInt = (f 15).toInt from by first | exact oz_ff3084e3c1 k68_3 e127 e10 e103 | omega), (show (f120 20).toInt = (f 20).toInt from by first | exact oz_ff3084e3c1 k68_4 e128 e11 e104 | omega)⟩) d_Txp_access_205
      · have nc17 : p0.toInt = (3 : Int) := (i_eq (x := p0) (y := 3)).mp c17
        refine lv_aload_n S.x S.b d_Txp_access_107 rfl (lv_at hl 1 rfl) ?_
        refine lv_aload_n S.x S.b d_Txp_access_108 rfl (lv_at hl 1 rfl) ?_
        refine lv_iload_n S.x S.b d_Txp_access_109 rfl (lv_at hl 4 rfl) ?_
        refine lv_iload S.x S.b d_Txp_access_110 (lv_at hl 7 rfl) ?_
        first | refine px_calli (pr := []) (px_runV (As := [.int p2, .int x68_6]) (rest := [.ref h]) S (c_Txp_keep l D cs h r g hp f3 a4 p2 x68_6  (show TxOk (f3 4) (f3 5) (f3 8) (f3 9) (f3 17) (f3 21) (a4 2) from ⟨lk, ⟨i2, i3⟩, ⟨i4, i5⟩, ⟨i6, i7⟩, i8, ⟨i9, i11⟩, i10, hrt⟩) _) hT (pr := []) (pcs := [wd_Txp cs h r (fun k => if k = 3 then (some hp) else none) f3 a4 g]) hw px_X.tt (px_recv hT hw 0 0 rfl rfl rfl) m9_59 m9_56 m9_58 ms_7_10 m1_35 q_Txp_keep ⟨Nat.le_of_ble_eq_true rfl, Nat.le_of_ble_eq_true rfl⟩ hl.1 rfl (Nat.le_of_ble_eq_true rfl) d_Txp_access_112 ⟨Nat.le_of_ble_eq_true rfl, Nat.le_of_ble_eq_true rfl⟩) hw hA (fun v134 p133 H locs hp133 hw => ?_) | refine px_calli (pr := []) (px_runV (As := [.int p2, .int x68_6]) (rest := [.ref h]) S (c_Txp_keep l D cs h r g hp f3 a4 p2 x68_6  (show TxOk (f3 4) (f3 5) (f3 8) (f3 9) (f3 17) (f3 21) (a4 2) from ⟨lk, ⟨by first | exact i2 | omega, by first | exact i3 | omega⟩, ⟨by first | exact i4 | omega, by first | exact i5 | omega⟩, ⟨by first | exact i6 | omega, by first | exact i7 | omega⟩, by first | exact i8 | omega, ⟨by first | exact i9 | omega, by first | exact i11 | omega⟩, by first | exact i10 | omega, hrt⟩) _) hT (pr := []) (pcs := [wd_Txp cs h r (fun k => if k = 3 then (some hp) else none) f3 a4 g]) hw px_X.tt (px_recv hT hw 0 0 rfl rfl rfl) m9_59 m9_56 m9_58 ms_7_10 m1_35 q_Txp_keep ⟨Nat.le_of_ble_eq_true rfl, Nat.le_of_ble_eq_true rfl⟩ hl.1 rfl (Nat.le_of_ble_eq_true rfl) d_Txp_access_112 ⟨Nat.le_of_ble_eq_true rfl, Nat.le_of_ble_eq_true rfl⟩) hw hA (fun v134 p133 H locs hp133 hw => ?_)
        obtain ⟨f131, a132, rfl, h141, e135, e136, e137, e138, e139, e140⟩ := hp133
        obtain ⟨lk, ⟨i2, i3⟩, ⟨i4, i5⟩, ⟨i6, i7⟩, i8, ⟨i9, i11⟩, i10, hrt⟩ := h141
        have e135 : (f131 9).toInt = (f3 9).toInt := e135
        have e136 : (f131 17).toInt = (f3 17).toInt := e136
        have e137 : (f131 21).toInt = (f3 21).toInt := e137
        have e138 : (f131 15).toInt = (f3 15).toInt := e138
        have e139 : (f131 20).toInt = (f3 20).toInt := e139
        have e140 : (f131 4).toInt = (f3 4).toInt := e140
        have lv134 := Int32.le_toInt v134
        have uv134 := Int32.toInt_lt v134
        first | refine px_callv (pr := []) (px_runV (As := [.int v134]) (rest := []) S (c_Txp_push l D cs h r g hp f131 a132 v134  (show TxOk (f131 4) (f131 5) (f131 8) (f131 9) (f131 17) (f131 21) (a132 2) from ⟨lk, ⟨i2, i3⟩, ⟨i4, i5⟩, ⟨i6, i7⟩, i8, ⟨i9, i11⟩, i10, hrt⟩) _) hT (pr := []) (pcs := [wd_Txp cs h r (fun k => if k = 3 then (some hp) else none) f131 a132 g]) hw px_X.tt (px_recv hT hw 0 0 rfl rfl rfl) m8_47 m8_44 m8_46 ms_5_6 m1_35 q_Txp_push ⟨Nat.le_of_ble_eq_true rfl, Nat.le_of_ble_eq_true rfl⟩ hl.1 rfl (Nat.le_of_ble_eq_true rfl) d_Txp_access_115 ⟨Nat.le_of_ble_eq_true rfl, Nat.le_of_ble_eq_true rfl⟩) hw hA (fun p144 H locs hp144 hw => ?_) | refine px_callv (pr := []) (px_runV (As := [.int v134]) (rest := []) S (c_Txp_push l D cs h r g hp f131 a132 v134  (show TxOk (f131 4) (f131 5) (f131 8) (f131 9) (f131 17) (f131 21) (a132 2) from ⟨lk, ⟨by first | exact i2 | omega, by first | exact i3 | omega⟩, ⟨by first | exact i4 | omega, by first | exact i5 | omega⟩, ⟨by first | exact i6 | omega, by first | exact i7 | omega⟩, by first | exact i8 | omega, ⟨by first | exact i9 | omega, by first | exact i11 | omega⟩, by first | exact i10 | omega, hrt⟩) _) hT (pr := []) (pcs := [wd_Txp cs h r (fun k => if k = 3 then (some hp) else none) f131 a132 g]) hw px_X.tt (px_recv hT hw 0 0 rfl rfl rfl) m8_47 m8_44 m8_46 ms_5_6 m1_35 q_Txp_push ⟨Nat.le_of_ble_eq_true rfl, Nat.le_of_ble_eq_true rfl⟩ hl.1 rfl (Nat.le_of_ble_eq_true rfl) d_Txp_access_115 ⟨Nat.le_of_ble_eq_true rfl, Nat.le_of_ble_eq_true rfl⟩) hw hA (fun p144 H locs hp144 hw => ?_)
        obtain ⟨f142, a143, rfl, h152, e146, e147, e148, e149, e150, e151⟩ := hp144
        obtain ⟨lk, ⟨i2, i3⟩, ⟨i4, i5⟩, ⟨i6, i7⟩, i8, ⟨i9, i11⟩, i10, hrt⟩ := h152
        have e146 : (f142 9).toInt = (f131 9).toInt := e146
        have e147 : (f142 17).toInt = (f131 17).toInt := e147
        have e148 : (f142 21).toInt = (f131 21).toInt := e148
        have e149 : (f142 15).toInt = (f131 15).toInt := e149
        have e150 : (f142 20).toInt = (f131 20).toInt := e150
        have e151 : (f142 4).toInt = (f131 4).toInt := e151
        refine lv_goto (tgt := 205) S.x S.b d_Txp_access_118 (by decide) ?_
        first | exact px_vret S hr hlk hAe hw (Nat.le_of_ble_eq_true rfl) (Nat.le_of_ble_eq_true rfl) (⟨f142, a143, rfl, (show TxOk (f142 4) (f142 5) (f142 8) (f142 9) (f142 17) (f142 21) (a143 2) from ⟨lk, ⟨i2, i3⟩, ⟨i4, i5⟩, ⟨i6, i7⟩, i8, ⟨i9, i11⟩, i10, hrt⟩), (show (f142 9).toInt = (f 9).toInt from (oz_ff3084e3c1 k68_0 e146 e7 e135)), (show (f142 17).toInt = (f 17).toInt from (oz_ff3084e3c1 k68_1 e147 e8 e136)), (show (f142 21).toInt = 0 from (oz_96aae3e9d2 e148 e137 e9 k68_2 i9)), (show (f142 15).toInt = (f 15).toInt from (oz_ff3084e3c1 k68_3 e149 e10 e138)), (show (f142 20).toInt = (f 20).toInt from (oz_ff3084e3c1 k68_4 e150 e11 e139))⟩) d_Txp_access_205 | exact px_vret S hr hlk hAe hw (Nat.le_of_ble_eq_true rfl) (Nat.le_of_ble_eq_true rfl) (⟨f142, a143, rfl, (show TxOk (f142 4) (f142 5) (f142 8) (f142 9) (f142 17) (f142 21) (a143 2) from ⟨lk, ⟨by first | exact i2 | omega, by first | exact i3 | omega⟩, ⟨by first | exact i4 | omega, by first | exact i5 | omega⟩, ⟨by first | exact i6 | omega, by first | exact i7 | omega⟩, by first | exact i8 | omega, ⟨by first | exact i9 | omega, by first | exact i11 | omega⟩, by first | exact i10 | omega, hrt⟩), (show (f142 9).toInt = (f 9).toInt from by first | exact oz_ff3084e3c1 k68_0 e146 e7 e135 | omega), (show (f142 17).toInt = (f 17).toInt from by first | exact oz_ff3084e3c1 k68_1 e147 e8 e136 | omega), (show (f142 21).toInt = 0 from by first | exact oz_96aae3e9d2 e148 e137 e9 k68_2 i9 | omega), (show (f142 15).toInt = (f 15).toInt from by first | exact oz_ff3084e3c1 k68_3 e149 e10 e138 | omega), (show (f142 20).toInt = (f 20).toInt from by first | exact oz_ff3084e3c1 k68_4 e150 e11 e139 | omega)⟩) d_Txp_access_205
    · have nc16 : p0.toInt = (2 : Int) := (i_eq (x := p0) (y := 2)).mp c16
      refine lv_aload_n S.x S.b d_Txp_access_93 rfl (lv_at hl 1 rfl) ?_
      refine lv_iload S.x S.b d_Txp_access_94 (lv_at hl 0 rfl) ?_
      first | refine px_callv (pr := []) (px_runV (As := [.int v15]) (rest := []) S (c_Txp_push l D cs h r g hp f3 a4 v15  (show TxOk (f3 4) (f3 5) (f3 8) (f3 9) (f3 17) (f3 21) (a4 2) from ⟨lk, ⟨i2, i3⟩, ⟨i4, i5⟩, ⟨i6, i7⟩, i8, ⟨i9, i11⟩, i10, hrt⟩) _) hT (pr := []) (pcs := [wd_Txp cs h r (fun k => if k = 3 then (some hp) else none) f3 a4 g]) hw px_X.tt (px_recv hT hw 0 0 rfl rfl rfl) m8_47 m8_44 m8_46 ms_5_6 m1_35 q_Txp_push ⟨Nat.le_of_ble_eq_true rfl, Nat.le_of_ble_eq_true rfl⟩ hl.1 rfl (Nat.le_of_ble_eq_true rfl) d_Txp_access_96 ⟨Nat.le_of_ble_eq_true rfl, Nat.le_of_ble_eq_true rfl⟩) hw hA (fun p155 H locs hp155 hw => ?_) | refine px_callv (pr := []) (px_runV (As := [.int v15]) (rest := []) S (c_Txp_push l D cs h r g hp f3 a4 v15  (show TxOk (f3 4) (f3 5) (f3 8) (f3 9) (f3 17) (f3 21) (a4 2) from ⟨lk, ⟨by first | exact i2 | omega, by first | exact i3 | omega⟩, ⟨by first | exact i4 | omega, by first | exact i5 | omega⟩, ⟨by first | exact i6 | omega, by first | exact i7 | omega⟩, by first | exact i8 | omega, ⟨by first | exact i9 | omega, by first | exact i11 | omega⟩, by first | exact i10 | omega, hrt⟩) _) hT (pr := []) (pcs := [wd_Txp cs h r (fun k => if k = 3 then (some hp) else none) f3 a4 g]) hw px_X.tt (px_recv hT hw 0 0 rfl rfl rfl) m8_47 m8_44 m8_46 ms_5_6 m1_35 q_Txp_push ⟨Nat.le_of_ble_eq_true rfl, Nat.le_of_ble_eq_true rfl⟩ hl.1 rfl (Nat.le_of_ble_eq_true rfl) d_Txp_access_96 ⟨Nat.le_of_ble_eq_true rfl, Nat.le_of_ble_eq_true rfl⟩) hw hA (fun p155 H locs hp155 hw => ?_)
      obtain ⟨f153, a154, rfl, h163, e157, e158, e159, e160, e161, e162⟩ := hp155
      obtain ⟨lk, ⟨i2, i3⟩, ⟨i4, i5⟩, ⟨i6, i7⟩, i8, ⟨i9, i11⟩, i10, hrt⟩ := h163
      have e157 : (f153 9).toInt = (f3 9).toInt := e157
      have e158 : (f153 17).toInt = (f3 17).toInt := e158
      have e159 : (f153 21).toInt = (f3 21).toInt := e159
      have e160 : (f153 15).toInt = (f3 15).toInt := e160
      have e161 : (f153 20).toInt = (f3 20).toInt := e161
      have e162 : (f153 4).toInt = (f3 4).toInt := e162
      refine lv_goto (tgt := 205) S.x S.b d_Txp_access_99 (by decide) ?_
      first | exact px_vret S hr hlk hAe hw (Nat.le_of_ble_eq_true rfl) (Nat.le_of_ble_eq_true rfl) (⟨f153, a154, rfl, (show TxOk (f153 4) (f153 5) (f153 8) (f153 9) (f153 17) (f153 21) (a154 2) from ⟨lk, ⟨i2, i3⟩, ⟨i4, i5⟩, ⟨i6, i7⟩, i8, ⟨i9, i11⟩, i10, hrt⟩), (show (f153 9).toInt = (f 9).toInt from (oz_e13fc83238 k68_0 e157 e7)), (show (f153 17).toInt = (f 17).toInt from (oz_e13fc83238 k68_1 e158 e8)), (show (f153 21).toInt = 0 from (oz_06db467756 e159 e9 k68_2 i9)), (show (f153 15).toInt = (f 15).toInt from (oz_e13fc83238 k68_3 e160 e10)), (show (f153 20).toInt = (f 20).toInt from (oz_e13fc83238 k68_4 e161 e11))⟩) d_Txp_access_205 | exact px_vret S hr hlk hAe hw (Nat.le_of_ble_eq_true rfl) (Nat.le_of_ble_eq_true rfl) (⟨f153, a154, rfl, (show TxOk (f153 4) (f153 5) (f153 8) (f153 9) (f153 17) (f153 21) (a154 2) from ⟨lk, ⟨by first | exact i2 | omega, by first | exact i3 | omega⟩, ⟨by first | exact i4 | omega, by first | exact i5 | omega⟩, ⟨by first | exact i6 | omega, by first | exact i7 | omega⟩, by first | exact i8 | omega, ⟨by first | exact i9 | omega, by first | exact i11 | omega⟩, by first | exact i10 | omega, hrt⟩), (show (f153 9).toInt = (f 9).toInt from by first | exact oz_e13fc83238 k68_0 e157 e7 | omega), (show (f153 17).toInt = (f 17).toInt from by first | exact oz_e13fc83238 k68_1 e158 e8 | omega), (show (f153 21).toInt = 0 from by first | exact oz_06db467756 e159 e9 k68_2 i9 | omega), (show (f153 15).toInt = (f 15).toInt from by first | exact oz_e13fc83238 k68_3 e160 e10 | omega), (show (f153 20).toInt = (f 20).toInt from by first | exact oz_e13fc83238 k68_4 e161 e11 | omega)⟩) d_Txp_access_205
  refine lv_iload_n S.x S.b d_Txp_access_0 rfl (lv_at hl 1 rfl) ?_
  refine lv_iconst (v := 3) S.x S.b d_Txp_access_1 (by decide) ?_
  refine lv_icmp_eq (tgt := 10) S.x S.b d_Txp_access_2 (by decide) (fun c164 => ?_) (fun c164 => ?_)
  · have nc164 : p0.toInt = (3 : Int) := (i_eq (x := p0) (y := 3)).mp c164
    refine lv_aload_n S.x S.b d_Txp_access_10 rfl (lv_at hl 0 rfl) ?_
    first | refine px_calli (pr := []) (px_runV (As := []) (rest := []) S (c_Txp_pop l D cs h r g hp f a   (show TxOk (f 4) (f 5) (f 8) (f 9) (f 17) (f 21) (a 2) from ⟨lk, ⟨i2, i3⟩, ⟨i4, i5⟩, ⟨i6, i7⟩, i8, ⟨i9, i11⟩, i10, hrt⟩) _) hT (pr := []) (pcs := [wd_Txp cs h r (fun k => if k = 3 then (some hp) else none) f a g]) hw px_X.tt (px_recv hT hw 0 0 rfl rfl rfl) m9_15 m9_12 m9_14 ms_7_0 m1_35 q_Txp_pop ⟨Nat.le_of_ble_eq_true rfl, Nat.le_of_ble_eq_true rfl⟩ hl.1 rfl (Nat.le_of_ble_eq_true rfl) d_Txp_access_11 ⟨Nat.le_of_ble_eq_true rfl, Nat.le_of_ble_eq_true rfl⟩) hw hA (fun v168 p167 H locs hp167 hw => ?_) | refine px_calli (pr := []) (px_runV (As := []) (rest := []) S (c_Txp_pop l D cs h r g hp f a   (show TxOk (f 4) (f 5) (f 8) (f 9) (f 17) (f 21) (a 2) from ⟨lk, ⟨by first | exact i2 | omega, by first | exact i3 | omega⟩, ⟨by first | exact i4 | omega, by first | exact i5 | omega⟩, ⟨by first | exact i6 | omega, by first | exact i7 | omega⟩, by first | exact i8 | omega, ⟨by first | exact i9 | omega, by first | exact i11 | omega⟩, by first | exact i10 | omega, hrt⟩) _) hT (pr := []) (pcs := [wd_Txp cs h r (fun k => if k = 3 then (some hp) else none) f a g]) hw px_X.tt (px_recv hT hw 0 0 rfl rfl rfl) m9_15 m9_12 m9_14 ms_7_0 m1_35 q_Txp_pop ⟨Nat.le_of_ble_eq_true rfl, Nat.le_of_ble_eq_true rfl⟩ hl.1 rfl (Nat.le_of_ble_eq_true rfl) d_Txp_access_11 ⟨Nat.le_of_ble_eq_true rfl, Nat.le_of_ble_eq_true rfl⟩) hw hA (fun v168 p167 H locs hp167 hw => ?_)
    obtain ⟨f165, a166, rfl, h175, e169, e170, e171, e172, e173, e174⟩ := hp167
    obtain ⟨lk, ⟨i2, i3⟩, ⟨i4, i5⟩, ⟨i6, i7⟩, i8, ⟨i9, i11⟩, i10, hrt⟩ := h175
    have e169 : (f165 9).toInt = (f 9).toInt := e169
    have e170 : (f165 17).toInt = (f 17).toInt := e170
    have e171 : (f165 21).toInt = (f 21).toInt := e171
    have e172 : (f165 15).toInt = (f 15).toInt := e172
    have e173 : (f165 20).toInt = (f 20).toInt := e173
    have e174 : (f165 4).toInt = (f 4).toInt := e174
    have lv168 := Int32.le_toInt v168
    have uv168 := Int32.toInt_lt v168
    refine lv_goto (tgt := 18) S.x S.b d_Txp_access_14 (by decide) ?_
    refine lv_istore (lv' := [(6, .int v168), (0, .ref h), (1, .int p0), (2, .int p1), (3, .int p2), (4, .int p3), (5, .int p4)]) S.x S.b d_Txp_access_18 hl (by decide) rfl (fun ls hl => ?_)
    refine lv_iload_n S.x S.b d_Txp_access_20 rfl (lv_at hl 4 rfl) ?_
    refine lv_iconst (v := 4) S.x S.b d_Txp_access_21 (by decide) ?_
    refine lv_iand S.x S.b d_Txp_access_22 ?_
    refine lv_topi (fun z176 ez176 => ?_)
    have lz176 := Int32.le_toInt z176
    have uz176 := Int32.toInt_lt z176
    refine lv_if_eq (tgt := 33) S.x S.b d_Txp_access_23 (by decide) (fun c177 => ?_) (fun c177 => ?_)
    · have nc177 : z176.toInt = (0 : Int) := (i_eq (x := z176) (y := 0)).mp c177
      refine lv_iconst (v := 0) S.x S.b d_Txp_access_33 (by decide) ?_
      refine lv_istore (lv' := [(7, .int 0), (6, .int v168), (0, .ref h), (1, .int p0), (2, .int p1), (3, .int p2), (4, .int p3), (5, .int p4)]) S.x S.b d_Txp_access_34 hl (by decide) rfl (fun ls hl => ?_)
      refine lv_iload_n S.x S.b d_Txp_access_36 rfl (lv_at hl 5 rfl) ?_
      refine lv_iconst (v := 4) S.x S.b d_Txp_access_37 (by decide) ?_
      refine lv_iand S.x S.b d_Txp_access_38 ?_
      refine lv_topi (fun z178 ez178 => ?_)
      have lz178 := Int32.le_toInt z178
      have uz178 := Int32.toInt_lt z178
      refine lv_if_eq (tgt := 68) S.x S.b d_Txp_access_39 (by decide) (fun c179 => ?_) (fun c179 => ?_)
      · have nc179 : z178.toInt = (0 : Int) := (i_eq (x := z178) (y := 0)).mp c179
        first | exact J68 f165 a166 v168 (0 : Int32) _ _ ls (show TxOk (f165 4) (f165 5) (f165 8) (f165 9) (f165 17) (f165 21) (a166 2) from ⟨lk, ⟨i2, i3⟩, ⟨i4, i5⟩, ⟨i6, i7⟩, i8, ⟨i9, i11⟩, i10, hrt⟩) (show (f165 9).toInt = (f 9).toInt from e169) (show (f165 17).toInt = (f 17).toInt from e170) (show (f165 21).toInt = 0 from (oz_4193540c58 e171 g0)) (show (f165 15).toInt = (f 15).toInt from e172) (show (f165 20).toInt = (f 20).toInt from e173) hw (lv_sub hl [2, 3, 4, 5, 6, 7, 1, 0] rfl) | exact J68 f165 a166 v168 (0 : Int32) _ _ ls (show TxOk (f165 4) (f165 5) (f165 8) (f165 9) (f165 17) (f165 21) (a166 2) from ⟨lk, ⟨by first | exact i2 | omega, by first | exact i3 | omega⟩, ⟨by first | exact i4 | omega, by first | exact i5 | omega⟩, ⟨by first | exact i6 | omega, by first | exact i7 | omega⟩, by first | exact i8 | omega, ⟨by first | exact i9 | omega, by first | exact i11 | omega⟩, by first | exact i10 | omega, hrt⟩) (show (f165 9).toInt = (f 9).toInt from by first | exact e169 | omega) (show (f165 17).toInt = (f 17).toInt from by first | exact e170 | omega) (show (f165 21).toInt = 0 from by first | exact oz_4193540c58 e171 g0 | omega) (show (f165 15).toInt = (f 15).toInt from by first | exact e172 | omega) (show (f165 20).toInt = (f 20).toInt from by first | exact e173 | omega) hw (lv_sub hl [2, 3, 4, 5, 6, 7, 1, 0] rfl)
      · have nc179 : ¬ z178.toInt = (0 : Int) := mt (i_eq (x := z178) (y := 0)).mpr c179
        refine lv_iload S.x S.b d_Txp_access_42 (lv_at hl 0 rfl) ?_
        refine lv_if_lt (tgt := 61) S.x S.b d_Txp_access_44 (by decide) (fun c180 => ?_) (fun c180 => ?_)
        · exact absurd c180 (by decide)
        ·
          refine lv_iload S.x S.b d_Txp_access_47 (lv_at hl 0 rfl) ?_
          refine lv_aload_n S.x S.b d_Txp_access_49 rfl (lv_at hl 2 rfl) ?_
          refine lv_iload_n S.x S.b d_Txp_access_50 rfl (lv_at hl 5 rfl) ?_
          refine lv_iload S.x S.b d_Txp_access_51 (lv_at hl 6 rfl) ?_
          refine lv_iload S.x S.b d_Txp_access_53 (lv_at hl 7 rfl) ?_
          first | refine px_calli (pr := []) (px_runV (As := [.int p2, .int p3, .int p4]) (rest := [.int 0]) S (c_Txp_rowLength l D cs h r g hp f165 a166 p2 p3 p4  (show TxOk (f165 4) (f165 5) (f165 8) (f165 9) (f165 17) (f165 21) (a166 2) from ⟨lk, ⟨i2, i3⟩, ⟨i4, i5⟩, ⟨i6, i7⟩, i8, ⟨i9, i11⟩, i10, hrt⟩) _) hT (pr := []) (pcs := [wd_Txp cs h r (fun k => if k = 3 then (some hp) else none) f165 a166 g]) hw px_X.tt (px_recv hT hw 0 0 rfl rfl rfl) m9_43 m9_40 m9_42 ms_7_6 m1_35 q_Txp_rowLength ⟨Nat.le_of_ble_eq_true rfl, Nat.le_of_ble_eq_true rfl⟩ hl.1 rfl (Nat.le_of_ble_eq_true rfl) d_Txp_access_55 ⟨Nat.le_of_ble_eq_true rfl, Nat.le_of_ble_eq_true rfl⟩) hw hA (fun v182 p181 H locs hp181 hw => ?_) | refine px_calli (pr := []) (px_runV (As := [.int p2, .int p3, .int p4]) (rest := [.int 0]) S (c_Txp_rowLength l D cs h r g hp f165 a166 p2 p3 p4  (show TxOk (f165 4) (f165 5) (f165 8) (f165 9) (f165 17) (f165 21) (a166 2) from ⟨lk, ⟨by first | exact i2 | omega, by first | exact i3 | omega⟩, ⟨by first | exact i4 | omega, by first | exact i5 | omega⟩, ⟨by first | exact i6 | omega, by first | exact i7 | omega⟩, by first | exact i8 | omega, ⟨by first | exact i9 | omega, by first | exact i11 | omega⟩, by first | exact i10 | omega, hrt⟩) _) hT (pr := []) (pcs := [wd_Txp cs h r (fun k => if k = 3 then (some hp) else none) f165 a166 g]) hw px_X.tt (px_recv hT hw 0 0 rfl rfl rfl) m9_43 m9_40 m9_42 ms_7_6 m1_35 q_Txp_rowLength ⟨Nat.le_of_ble_eq_true rfl, Nat.le_of_ble_eq_true rfl⟩ hl.1 rfl (Nat.le_of_ble_eq_true rfl) d_Txp_access_55 ⟨Nat.le_of_ble_eq_true rfl, Nat.le_of_ble_eq_true rfl⟩) hw hA (fun v182 p181 H locs hp181 hw => ?_)
          subst hp181
          have lv182 := Int32.le_toInt v182
          have uv182 := Int32.toInt_lt v182
          refine lv_icmp_lt (tgt := 68) S.x S.b d_Txp_access_58 (by decide) (fun c183 => ?_) (fun c183 => ?_)
          · have nc183 : (0 : Int) < v182.toInt := (i_lt (x := 0) (y := v182)).mp c183
            first | exact J68 f165 a166 v168 (0 : Int32) _ _ ls (show TxOk (f165 4) (f165 5) (f165 8) (f165 9) (f165 17) (f165 21) (a166 2) from ⟨lk, ⟨i2, i3⟩, ⟨i4, i5⟩, ⟨i6, i7⟩, i8, ⟨i9, i11⟩, i10, hrt⟩) (show (f165 9).toInt = (f 9).toInt from e169) (show (f165 17).toInt = (f 17).toInt from e170) (show (f165 21).toInt = 0 from (oz_4193540c58 e171 g0)) (show (f165 15).toInt = (f 15).toInt from e172) (show (f165 20).toInt = (f 20).toInt from e173) hw (lv_sub hl [2, 3, 4, 5, 6, 7, 1, 0] rfl) | exact J68 f165 a166 v168 (0 : Int32) _ _ ls (show TxOk (f165 4) (f165 5) (f165 8) (f165 9) (f165 17) (f165 21) (a166 2) from ⟨lk, ⟨by first | exact i2 | omega, by first | exact i3 | omega⟩, ⟨by first | exact i4 | omega, by first | exact i5 | omega⟩, ⟨by first | exact i6 | omega, by first | exact i7 | omega⟩, by first | exact i8 | omega, ⟨by first | exact i9 | omega, by first | exact i11 | omega⟩, by first | exact i10 | omega, hrt⟩) (show (f165 9).toInt = (f 9).toInt from by first | exact e169 | omega) (show (f165 17).toInt = (f 17).toInt from by first | exact e170 | omega) (show (f165 21).toInt = 0 from by first | exact oz_4193540c58 e171 g0 | omega) (show (f165 15).toInt = (f 15).toInt from by first | exact e172 | omega) (show (f165 20).toInt = (f 20).toInt from by first | exact e173 | omega) hw (lv_sub hl [2, 3, 4, 5, 6, 7, 1, 0] rfl)
          · have nc183 : ¬ (0 : Int) < v182.toInt := mt (i_lt (x := 0) (y := v182)).mpr c183
            refine lv_aload_n S.x S.b d_Txp_access_61 rfl (lv_at hl 2 rfl) ?_
            refine lv_iconst (v := 2) S.x S.b d_Txp_access_62 (by decide) ?_
            refine lv_iconst (v := 0) S.x S.b d_Txp_access_63 (by decide) ?_
            first | refine px_callv (pr := []) (px_runU (As := [.int 2, .int 0]) (rest := []) S (c_finish_Txp l D cs h r g hp f165 a166 2 0  (show TxOk (f165 4) (f165 5) (f165 8) (f165 9) (f165 17) (f165 21) (a166 2) from ⟨lk, ⟨i2, i3⟩, ⟨i4, i5⟩, ⟨i6, i7⟩, i8, ⟨i9, i11⟩, i10, hrt⟩) _) hT (pr := []) (pcs := [wd_Txp cs h r (fun k => if k = 3 then (some hp) else none) f165 a166 g]) hw px_X.tt (C := "HomeSystem$TextProcess") (x := ⟨"HomeSystem$TextProcess", "finish", "(II)V"⟩) (px_recv hT hw 0 0 rfl rfl rfl) m8_89 m9_5 m9_6 m8_85 m9_7 m1_33 rfl q_HomeSystem_AnyProcess_finish ⟨Nat.le_of_ble_eq_true rfl, Nat.le_of_ble_eq_true rfl⟩ hl.1 rfl (Nat.le_of_ble_eq_true rfl) d_Txp_access_64 ⟨Nat.le_of_ble_eq_true rfl, Nat.le_of_ble_eq_true rfl⟩) hw hA (fun p186 H locs hp186 hw => ?_) | refine px_callv (pr := []) (px_runU (As := [.int 2, .int 0]) (rest := []) S (c_finish_Txp l D cs h r g hp f165 a166 2 0  (show TxOk (f165 4) (f165 5) (f165 8) (f165 9) (f165 17) (f165 21) (a166 2) from ⟨lk, ⟨by first | exact i2 | omega, by first | exact i3 | omega⟩, ⟨by first | exact i4 | omega, by first | exact i5 | omega⟩, ⟨by first | exact i6 | omega, by first | exact i7 | omega⟩, by first | exact i8 | omega, ⟨by first | exact i9 | omega, by first | exact i11 | omega⟩, by first | exact i10 | omega, hrt⟩) _) hT (pr := []) (pcs := [wd_Txp cs h r (fun k => if k = 3 then (some hp) else none) f165 a166 g]) hw px_X.tt (C := "HomeSystem$TextProcess") (x := ⟨"HomeSystem$TextProcess", "finish", "(II)V"⟩) (px_recv hT hw 0 0 rfl rfl rfl) m8_89 m9_5 m9_6 m8_85 m9_7 m1_33 rfl q_HomeSystem_AnyProcess_finish ⟨Nat.le_of_ble_eq_true rfl, Nat.le_of_ble_eq_true rfl⟩ hl.1 rfl (Nat.le_of_ble_eq_true rfl) d_Txp_access_64 ⟨Nat.le_of_ble_eq_true rfl, Nat.le_of_ble_eq_true rfl⟩) hw hA (fun p186 H locs hp186 hw => ?_)
            obtain ⟨f184, a185, rfl, h193, e188, e189, e190, e191, e192⟩ := hp186
            obtain ⟨lk, ⟨i2, i3⟩, ⟨i4, i5⟩, ⟨i6, i7⟩, i8, ⟨i9, i11⟩, i10, hrt⟩ := h193
            have e188 : (f184 9).toInt = (f165 9).toInt := e188
            have e189 : (f184 17).toInt = (f165 17).toInt := e189
            have e190 : (f184 21).toInt = 0 := e190
            have e191 : (f184 15).toInt = (f165 15).toInt := e191
            have e192 : (f184 20).toInt = (f165 20).toInt := e192
            first | exact px_vret S hr hlk hAe hw (Nat.le_of_ble_eq_true rfl) (Nat.le_of_ble_eq_true rfl) (⟨f184, a185, rfl, (show TxOk (f184 4) (f184 5) (f184 8) (f184 9) (f184 17) (f184 21) (a185 2) from ⟨lk, ⟨i2, i3⟩, ⟨i4, i5⟩, ⟨i6, i7⟩, i8, ⟨i9, i11⟩, i10, hrt⟩), (show (f184 9).toInt = (f 9).toInt from (oz_1687f4cc65 e169 e188)), (show (f184 17).toInt = (f 17).toInt from (oz_1687f4cc65 e170 e189)), (show (f184 21).toInt = 0 from e190), (show (f184 15).toInt = (f 15).toInt from (oz_1687f4cc65 e172 e191)), (show (f184 20).toInt = (f 20).toInt from (oz_1687f4cc65 e173 e192))⟩) d_Txp_access_67 | exact px_vret S hr hlk hAe hw (Nat.le_of_ble_eq_true rfl) (Nat.le_of_ble_eq_true rfl) (⟨f184, a185, rfl, (show TxOk (f184 4) (f184 5) (f184 8) (f184 9) (f184 17) (f184 21) (a185 2) from ⟨lk, ⟨by first | exact i2 | omega, by first | exact i3 | omega⟩, ⟨by first | exact i4 | omega, by first | exact i5 | omega⟩, ⟨by first | exact i6 | omega, by first | exact i7 | omega⟩, by first | exact i8 | omega, ⟨by first | exact i9 | omega, by first | exact i11 | omega⟩, by first | exact i10 | omega, hrt⟩), (show (f184 9).toInt = (f 9).toInt from by first | exact oz_1687f4cc65 e169 e188 | omega), (show (f184 17).toInt = (f 17).toInt from by first | exact oz_1687f4cc65 e170 e189 | omega), (show (f184 21).toInt = 0 from by first | exact e190 | omega), (show (f184 15).toInt = (f 15).toInt from by first | exact oz_1687f4cc65 e172 e191 | omega), (show (f184 20).toInt = (f 20).toInt from by first | exact oz_1687f4cc65 e173 e192 | omega)⟩) d_Txp_access_67
    · have nc177 : ¬ z176.toInt = (0 : Int) := mt (i_eq (x := z176) (y := 0)).mpr c177
      refine lv_aload_n S.x S.b d_Txp_access_26 rfl (lv_at hl 1 rfl) ?_
      first | refine px_calli (pr := []) (px_runV (As := []) (rest := []) S (c_Txp_pop l D cs h r g hp f165 a166   (show TxOk (f165 4) (f165 5) (f165 8) (f165 9) (f165 17) (f165 21) (a166 2) from ⟨lk, ⟨i2, i3⟩, ⟨i4, i5⟩, ⟨i6, i7⟩, i8, ⟨i9, i11⟩, i10, hrt⟩) _) hT (pr := []) (pcs := [wd_Txp cs h r (fun k => if k = 3 then (some hp) else none) f165 a166 g]) hw px_X.tt (px_recv hT hw 0 0 rfl rfl rfl) m9_15 m9_12 m9_14 ms_7_0 m1_35 q_Txp_pop ⟨Nat.le_of_ble_eq_true rfl, Nat.le_of_ble_eq_true rfl⟩ hl.1 rfl (Nat.le_of_ble_eq_true rfl) d_Txp_access_27 ⟨Nat.le_of_ble_eq_true rfl, Nat.le_of_ble_eq_true rfl⟩) hw hA (fun v197 p196 H locs hp196 hw => ?_) | refine px_calli (pr := []) (px_runV (As := []) (rest := []) S (c_Txp_pop l D cs h r g hp f165 a166   (show TxOk (f165 4) (f165 5) (f165 8) (f165 9) (f165 17) (f165 21) (a166 2) from ⟨lk, ⟨by first | exact i2 | omega, by first | exact i3 | omega⟩, ⟨by first | exact i4 | omega, by first | exact i5 | omega⟩, ⟨by first | exact i6 | omega, by first | exact i7 | omega⟩, by first | exact i8 | omega, ⟨by first | exact i9 | omega, by first | exact i11 | omega⟩, by first | exact i10 | omega, hrt⟩) _) hT (pr := []) (pcs := [wd_Txp cs h r (fun k => if k = 3 then (some hp) else none) f165 a166 g]) hw px_X.tt (px_recv hT hw 0 0 rfl rfl rfl) m9_15 m9_12 m9_14 ms_7_0 m1_35 q_Txp_pop ⟨Nat.le_of_ble_eq_true rfl, Nat.le_of_ble_eq_true rfl⟩ hl.1 rfl (Nat.le_of_ble_eq_true rfl) d_Txp_access_27 ⟨Nat.le_of_ble_eq_true rfl, Nat.le_of_ble_eq_true rfl⟩) hw hA (fun v197 p196 H locs hp196 hw => ?_)
      obtain ⟨f194, a195, rfl, h204, e198, e199, e200, e201, e202, e203⟩ := hp196
      obtain ⟨lk, ⟨i2, i3⟩, ⟨i4, i5⟩, ⟨i6, i7⟩, i8, ⟨i9, i11⟩, i10, hrt⟩ := h204
      have e198 : (f194 9).toInt = (f165 9).toInt := e198
      have e199 : (f194 17).toInt = (f165 17).toInt := e199
      have e200 : (f194 21).toInt = (f165 21).toInt := e200
      have e201 : (f194 15).toInt = (f165 15).toInt := e201
      have e202 : (f194 20).toInt = (f165 20).toInt := e202
      have e203 : (f194 4).toInt = (f165 4).toInt := e203
      have lv197 := Int32.le_toInt v197
      have uv197 := Int32.toInt_lt v197
      refine lv_goto (tgt := 34) S.x S.b d_Txp_access_30 (by decide) ?_
      refine lv_istore (lv' := [(7, .int v197), (6, .int v168), (0, .ref h), (1, .int p0), (2, .int p1), (3, .int p2), (4, .int p3), (5, .int p4)]) S.x S.b d_Txp_access_34 hl (by decide) rfl (fun ls hl => ?_)
      refine lv_iload_n S.x S.b d_Txp_access_36 rfl (lv_at hl 5 rfl) ?_
      refine lv_iconst (v := 4) S.x S.b d_Txp_access_37 (by decide) ?_
      refine lv_iand S.x S.b d_Txp_access_38 ?_
      refine lv_topi (fun z205 ez205 => ?_)
      have lz205 := Int32.le_toInt z205
      have uz205 := Int32.toInt_lt z205
      refine lv_if_eq (tgt := 68) S.x S.b d_Txp_access_39 (by decide) (fun c206 => ?_) (fun c206 => ?_)
      · have nc206 : z205.toInt = (0 : Int) := (i_eq (x := z205) (y := 0)).mp c206
        first | exact J68 f194 a195 v168 v197 _ _ ls (show TxOk (f194 4) (f194 5) (f194 8) (f194 9) (f194 17) (f194 21) (a195 2) from ⟨lk, ⟨i2, i3⟩, ⟨i4, i5⟩, ⟨i6, i7⟩, i8, ⟨i9, i11⟩, i10, hrt⟩) (show (f194 9).toInt = (f 9).toInt from (oz_1687f4cc65 e169 e198)) (show (f194 17).toInt = (f 17).toInt from (oz_1687f4cc65 e170 e199)) (show (f194 21).toInt = 0 from (oz_06db467756 e200 e171 g0 i9)) (show (f194 15).toInt = (f 15).toInt from (oz_1687f4cc65 e172 e201)) (show (f194 20).toInt = (f 20).toInt from (oz_1687f4cc65 e173 e202)) hw (lv_sub hl [2, 3, 4, 5, 6, 7, 1, 0] rfl) | exact J68 f194 a195 v168 v197 _ _ ls (show TxOk (f194 4) (f194 5) (f194 8) (f194 9) (f194 17) (f194 21) (a195 2) from ⟨lk, ⟨by first | exact i2 | omega, by first | exact i3 | omega⟩, ⟨by first | exact i4 | omega, by first | exact i5 | omega⟩, ⟨by first | exact i6 | omega, by first | exact i7 | omega⟩, by first | exact i8 | omega, ⟨by first | exact i9 | omega, by first | exact i11 | omega⟩, by first | exact i10 | omega, hrt⟩) (show (f194 9).toInt = (f 9).toInt from by first | exact oz_1687f4cc65 e169 e198 | omega) (show (f194 17).toInt = (f 17).toInt from by first | exact oz_1687f4cc65 e170 e199 | omega) (show (f194 21).toInt = 0 from by first | exact oz_06db467756 e200 e171 g0 i9 | omega) (show (f194 15).toInt = (f 15).toInt from by first | exact oz_1687f4cc65 e172 e201 | omega) (show (f194 20).toInt = (f 20).toInt from by first | exact oz_1687f4cc65 e173 e202 | omega) hw (lv_sub hl [2, 3, 4, 5, 6, 7, 1, 0] rfl)
      · have nc206 : ¬ z205.toInt = (0 : Int) := mt (i_eq (x := z205) (y := 0)).mpr c206
        refine lv_iload S.x S.b d_Txp_access_42 (lv_at hl 0 rfl) ?_
        refine lv_if_lt (tgt := 61) S.x S.b d_Txp_access_44 (by decide) (fun c207 => ?_) (fun c207 => ?_)
        · have nc207 : v197.toInt < (0 : Int) := (i_lt (x := v197) (y := 0)).mp c207
          refine lv_aload_n S.x S.b d_Txp_access_61 rfl (lv_at hl 2 rfl) ?_
          refine lv_iconst (v := 2) S.x S.b d_Txp_access_62 (by decide) ?_
          refine lv_iconst (v := 0) S.x S.b d_Txp_access_63 (by decide) ?_
          first | refine px_callv (pr := []) (px_runU (As := [.int 2, .int 0]) (rest := []) S (c_finish_Txp l D cs h r g hp f194 a195 2 0  (show TxOk (f194 4) (f194 5) (f194 8) (f194 9) (f194 17) (f194 21) (a195 2) from ⟨lk, ⟨i2, i3⟩, ⟨i4, i5⟩, ⟨i6, i7⟩, i8, ⟨i9, i11⟩, i10, hrt⟩) _) hT (pr := []) (pcs := [wd_Txp cs h r (fun k => if k = 3 then (some hp) else none) f194 a195 g]) hw px_X.tt (C := "HomeSystem$TextProcess") (x := ⟨"HomeSystem$TextProcess", "finish", "(II)V"⟩) (px_recv hT hw 0 0 rfl rfl rfl) m8_89 m9_5 m9_6 m8_85 m9_7 m1_33 rfl q_HomeSystem_AnyProcess_finish ⟨Nat.le_of_ble_eq_true rfl, Nat.le_of_ble_eq_true rfl⟩ hl.1 rfl (Nat.le_of_ble_eq_true rfl) d_Txp_access_64 ⟨Nat.le_of_ble_eq_true rfl, Nat.le_of_ble_eq_true rfl⟩) hw hA (fun p210 H locs hp210 hw => ?_) | refine px_callv (pr := []) (px_runU (As := [.int 2, .int 0]) (rest := []) S (c_finish_Txp l D cs h r g hp f194 a195 2 0  (show TxOk (f194 4) (f194 5) (f194 8) (f194 9) (f194 17) (f194 21) (a195 2) from ⟨lk, ⟨by first | exact i2 | omega, by first | exact i3 | omega⟩, ⟨by first | exact i4 | omega, by first | exact i5 | omega⟩, ⟨by first | exact i6 | omega, by first | exact i7 | omega⟩, by first | exact i8 | omega, ⟨by first | exact i9 | omega, by first | exact i11 | omega⟩, by first | exact i10 | omega, hrt⟩) _) hT (pr := []) (pcs := [wd_Txp cs h r (fun k => if k = 3 then (some hp) else none) f194 a195 g]) hw px_X.tt (C := "HomeSystem$TextProcess") (x := ⟨"HomeSystem$TextProcess", "finish", "(II)V"⟩) (px_recv hT hw 0 0 rfl rfl rfl) m8_89 m9_5 m9_6 m8_85 m9_7 m1_33 rfl q_HomeSystem_AnyProcess_finish ⟨Nat.le_of_ble_eq_true rfl, Nat.le_of_ble_eq_true rfl⟩ hl.1 rfl (Nat.le_of_ble_eq_true rfl) d_Txp_access_64 ⟨Nat.le_of_ble_eq_true rfl, Nat.le_of_ble_eq_true rfl⟩) hw hA (fun p210 H locs hp210 hw => ?_)
          obtain ⟨f208, a209, rfl, h217, e212, e213, e214, e215, e216⟩ := hp210
          obtain ⟨lk, ⟨i2, i3⟩, ⟨i4, i5⟩, ⟨i6, i7⟩, i8, ⟨i9, i11⟩, i10, hrt⟩ := h217
          have e212 : (f208 9).toInt = (f194 9).toInt := e212
          have e213 : (f208 17).toInt = (f194 17).toInt := e213
          have e214 : (f208 21).toInt = 0 := e214
          have e215 : (f208 15).toInt = (f194 15).toInt := e215
          have e216 : (f208 20).toInt = (f194 20).toInt := e216
          first | exact px_vret S hr hlk hAe hw (Nat.le_of_ble_eq_true rfl) (Nat.le_of_ble_eq_true rfl) (⟨f208, a209, rfl, (show TxOk (f208 4) (f208 5) (f208 8) (f208 9) (f208 17) (f208 21) (a209 2) from ⟨lk, ⟨i2, i3⟩, ⟨i4, i5⟩, ⟨i6, i7⟩, i8, ⟨i9, i11⟩, i10, hrt⟩), (show (f208 9).toInt = (f 9).toInt from (oz_e13fc83238 e169 e212 e198)), (show (f208 17).toInt = (f 17).toInt from (oz_e13fc83238 e170 e213 e199)), (show (f208 21).toInt = 0 from e214), (show (f208 15).toInt = (f 15).toInt from (oz_e13fc83238 e172 e215 e201)), (show (f208 20).toInt = (f 20).toInt from (oz_e13fc83238 e173 e216 e202))⟩) d_Txp_access_67 | exact px_vret S hr hlk hAe hw (Nat.le_of_ble_eq_true rfl) (Nat.le_of_ble_eq_true rfl) (⟨f208, a209, rfl, (show TxOk (f208 4) (f208 5) (f208 8) (f208 9) (f208 17) (f208 21) (a209 2) from ⟨lk, ⟨by first | exact i2 | omega, by first | exact i3 | omega⟩, ⟨by first | exact i4 | omega, by first | exact i5 | omega⟩, ⟨by first | exact i6 | omega, by first | exact i7 | omega⟩, by first | exact i8 | omega, ⟨by first | exact i9 | omega, by first | exact i11 | omega⟩, by first | exact i10 | omega, hrt⟩), (show (f208 9).toInt = (f 9).toInt from by first | exact oz_e13fc83238 e169 e212 e198 | omega), (show (f208 17).toInt = (f 17).toInt from by first | exact oz_e13fc83238 e170 e213 e199 | omega), (show (f208 21).toInt = 0 from by first | exact e214 | omega), (show (f208 15).toInt = (f 15).toInt from by first | exact oz_e13fc83238 e172 e215 e201 | omega), (show (f208 20).toInt = (f 20).toInt from by first | exact oz_e13fc83238 e173 e216 e202 | omega)⟩) d_Txp_access_67
        · have nc207 : ¬ v197.toInt < (0 : Int) := mt (i_lt (x := v197) (y := 0)).mpr c207
          refine lv_iload S.x S.b d_Txp_access_47 (lv_at hl 0 rfl) ?_
          refine lv_aload_n S.x S.b d_Txp_access_49 rfl (lv_at hl 2 rfl) ?_
          refine lv_iload_n S.x S.b d_Txp_access_50 rfl (lv_at hl 5 rfl) ?_
          refine lv_iload S.x S.b d_Txp_access_51 (lv_at hl 6 rfl) ?_
          refine lv_iload S.x S.b d_Txp_access_53 (lv_at hl 7 rfl) ?_
          first | refine px_calli (pr := []) (px_runV (As := [.int p2, .int p3, .int p4]) (rest := [.int v197]) S (c_Txp_rowLength l D cs h r g hp f194 a195 p2 p3 p4  (show TxOk (f194 4) (f194 5) (f194 8) (f194 9) (f194 17) (f194 21) (a195 2) from ⟨lk, ⟨i2, i3⟩, ⟨i4, i5⟩, ⟨i6, i7⟩, i8, ⟨i9, i11⟩, i10, hrt⟩) _) hT (pr := []) (pcs := [wd_Txp cs h r (fun k => if k = 3 then (some hp) else none) f194 a195 g]) hw px_X.tt (px_recv hT hw 0 0 rfl rfl rfl) m9_43 m9_40 m9_42 ms_7_6 m1_35 q_Txp_rowLength ⟨Nat.le_of_ble_eq_true rfl, Nat.le_of_ble_eq_true rfl⟩ hl.1 rfl (Nat.le_of_ble_eq_true rfl) d_Txp_access_55 ⟨Nat.le_of_ble_eq_true rfl, Nat.le_of_ble_eq_true rfl⟩) hw hA (fun v219 p218 H locs hp218 hw => ?_) | refine px_calli (pr := []) (px_runV (As := [.int p2, .int p3, .int p4]) (rest := [.int v197]) S (c_Txp_rowLength l D cs h r g hp f194 a195 p2 p3 p4  (show TxOk (f194 4) (f194 5) (f194 8) (f194 9) (f194 17) (f194 21) (a195 2) from ⟨lk, ⟨by first | exact i2 | omega, by first | exact i3 | omega⟩, ⟨by first | exact i4 | omega, by first | exact i5 | omega⟩, ⟨by first | exact i6 | omega, by first | exact i7 | omega⟩, by first | exact i8 | omega, ⟨by first | exact i9 | omega, by first | exact i11 | omega⟩, by first | exact i10 | omega, hrt⟩) _) hT (pr := []) (pcs := [wd_Txp cs h r (fun k => if k = 3 then (some hp) else none) f194 a195 g]) hw px_X.tt (px_recv hT hw 0 0 rfl rfl rfl) m9_43 m9_40 m9_42 ms_7_6 m1_35 q_Txp_rowLength ⟨Nat.le_of_ble_eq_true rfl, Nat.le_of_ble_eq_true rfl⟩ hl.1 rfl (Nat.le_of_ble_eq_true rfl) d_Txp_access_55 ⟨Nat.le_of_ble_eq_true rfl, Nat.le_of_ble_eq_true rfl⟩) hw hA (fun v219 p218 H locs hp218 hw => ?_)
          subst hp218
          have lv219 := Int32.le_toInt v219
          have uv219 := Int32.toInt_lt v219
          refine lv_icmp_lt (tgt := 68) S.x S.b d_Txp_access_58 (by decide) (fun c220 => ?_) (fun c220 => ?_)
          · have nc220 : v197.toInt < v219.toInt := (i_lt (x := v197) (y := v219)).mp c220
            first | exact J68 f194 a195 v168 v197 _ _ ls (show TxOk (f194 4) (f194 5) (f194 8) (f194 9) (f194 17) (f194 21) (a195 2) from ⟨lk, ⟨i2, i3⟩, ⟨i4, i5⟩, ⟨i6, i7⟩, i8, ⟨i9, i11⟩, i10, hrt⟩) (show (f194 9).toInt = (f 9).toInt from (oz_1687f4cc65 e169 e198)) (show (f194 17).toInt = (f 17).toInt from (oz_1687f4cc65 e170 e199)) (show (f194 21).toInt = 0 from (oz_06db467756 e200 e171 g0 i9)) (show (f194 15).toInt = (f 15).toInt from (oz_1687f4cc65 e172 e201)) (show (f194 20).toInt = (f 20).toInt from (oz_1687f4cc65 e173 e202)) hw (lv_sub hl [2, 3, 4, 5, 6, 7, 1, 0] rfl) | exact J68 f194 a195 v168 v197 _ _ ls (show TxOk (f194 4) (f194 5) (f194 8) (f194 9) (f194 17) (f194 21) (a195 2) from ⟨lk, ⟨by first | exact i2 | omega, by first | exact i3 | omega⟩, ⟨by first | exact i4 | omega, by first | exact i5 | omega⟩, ⟨by first | exact i6 | omega, by first | exact i7 | omega⟩, by first | exact i8 | omega, ⟨by first | exact i9 | omega, by first | exact i11 | omega⟩, by first | exact i10 | omega, hrt⟩) (show (f194 9).toInt = (f 9).toInt from by first | exact oz_1687f4cc65 e169 e198 | omega) (show (f194 17).toInt = (f 17).toInt from by first | exact oz_1687f4cc65 e170 e199 | omega) (show (f194 21).toInt = 0 from by first | exact oz_06db467756 e200 e171 g0 i9 | omega) (show (f194 15).toInt = (f 15).toInt from by first | exact oz_1687f4cc65 e172 e201 | omega) (show (f194 20).toInt = (f 20).toInt from by first | exact oz_1687f4cc65 e173 e202 | omega) hw (lv_sub hl [2, 3, 4, 5, 6, 7, 1, 0] rfl)
          · have nc220 : ¬ v197.toInt < v219.toInt := mt (i_lt (x := v197) (y := v219)).mpr c220
            refine lv_aload_n S.x S.b d_Txp_access_61 rfl (lv_at hl 2 rfl) ?_
            refine lv_iconst (v := 2) S.x S.b d_Txp_access_62 (by decide) ?_
            refine lv_iconst (v := 0) S.x S.b d_Txp_access_63 (by decide) ?_
            first | refine px_callv (pr := []) (px_runU (As := [.int 2, .int 0]) (rest := []) S (c_finish_Txp l D cs h r g hp f194 a195 2 0  (show TxOk (f194 4) (f194 5) (f194 8) (f194 9) (f194 17) (f194 21) (a195 2) from ⟨lk, ⟨i2, i3⟩, ⟨i4, i5⟩, ⟨i6, i7⟩, i8, ⟨i9, i11⟩, i10, hrt⟩) _) hT (pr := []) (pcs := [wd_Txp cs h r (fun k => if k = 3 then (some hp) else none) f194 a195 g]) hw px_X.tt (C := "HomeSystem$TextProcess") (x := ⟨"HomeSystem$TextProcess", "finish", "(II)V"⟩) (px_recv hT hw 0 0 rfl rfl rfl) m8_89 m9_5 m9_6 m8_85 m9_7 m1_33 rfl q_HomeSystem_AnyProcess_finish ⟨Nat.le_of_ble_eq_true rfl, Nat.le_of_ble_eq_true rfl⟩ hl.1 rfl (Nat.le_of_ble_eq_true rfl) d_Txp_access_64 ⟨Nat.le_of_ble_eq_true rfl, Nat.le_of_ble_eq_true rfl⟩) hw hA (fun p223 H locs hp223 hw => ?_) | refine px_callv (pr := []) (px_runU (As := [.int 2, .int 0]) (rest := []) S (c_finish_Txp l D cs h r g hp f194 a195 2 0  (show TxOk (f194 4) (f194 5) (f194 8) (f194 9) (f194 17) (f194 21) (a195 2) from ⟨lk, ⟨by first | exact i2 | omega, by first | exact i3 | omega⟩, ⟨by first | exact i4 | omega, by first | exact i5 | omega⟩, ⟨by first | exact i6 | omega, by first | exact i7 | omega⟩, by first | exact i8 | omega, ⟨by first | exact i9 | omega, by first | exact i11 | omega⟩, by first | exact i10 | omega, hrt⟩) _) hT (pr := []) (pcs := [wd_Txp cs h r (fun k => if k = 3 then (some hp) else none) f194 a195 g]) hw px_X.tt (C := "HomeSystem$TextProcess") (x := ⟨"HomeSystem$TextProcess", "finish", "(II)V"⟩) (px_recv hT hw 0 0 rfl rfl rfl) m8_89 m9_5 m9_6 m8_85 m9_7 m1_33 rfl q_HomeSystem_AnyProcess_finish ⟨Nat.le_of_ble_eq_true rfl, Nat.le_of_ble_eq_true rfl⟩ hl.1 rfl (Nat.le_of_ble_eq_true rfl) d_Txp_access_64 ⟨Nat.le_of_ble_eq_true rfl, Nat.le_of_ble_eq_true rfl⟩) hw hA (fun p223 H locs hp223 hw => ?_)
            obtain ⟨f221, a222, rfl, h230, e225, e226, e227, e228, e229⟩ := hp223
            obtain ⟨lk, ⟨i2, i3⟩, ⟨i4, i5⟩, ⟨i6, i7⟩, i8, ⟨i9, i11⟩, i10, hrt⟩ := h230
            have e225 : (f221 9).toInt = (f194 9).toInt := e225
            have e226 : (f221 17).toInt = (f194 17).toInt := e226
            have e227 : (f221 21).toInt = 0 := e227
            have e228 : (f221 15).toInt = (f194 15).toInt := e228
            have e229 : (f221 20).toInt = (f194 20).toInt := e229
            first | exact px_vret S hr hlk hAe hw (Nat.le_of_ble_eq_true rfl) (Nat.le_of_ble_eq_true rfl) (⟨f221, a222, rfl, (show TxOk (f221 4) (f221 5) (f221 8) (f221 9) (f221 17) (f221 21) (a222 2) from ⟨lk, ⟨i2, i3⟩, ⟨i4, i5⟩, ⟨i6, i7⟩, i8, ⟨i9, i11⟩, i10, hrt⟩), (show (f221 9).toInt = (f 9).toInt from (oz_e13fc83238 e169 e225 e198)), (show (f221 17).toInt = (f 17).toInt from (oz_e13fc83238 e170 e226 e199)), (show (f221 21).toInt = 0 from e227), (show (f221 15).toInt = (f 15).toInt from (oz_e13fc83238 e172 e228 e201)), (show (f221 20).toInt = (f 20).toInt from (oz_e13fc83238 e173 e229 e202))⟩) d_Txp_access_67 | exact px_vret S hr hlk hAe hw (Nat.le_of_ble_eq_true rfl) (Nat.le_of_ble_eq_true rfl) (⟨f221, a222, rfl, (show TxOk (f221 4) (f221 5) (f221 8) (f221 9) (f221 17) (f221 21) (a222 2) from ⟨lk, ⟨by first | exact i2 | omega, by first | exact i3 | omega⟩, ⟨by first | exact i4 | omega, by first | exact i5 | omega⟩, ⟨by first | exact i6 | omega, by first | exact i7 | omega⟩, by first | exact i8 | omega, ⟨by first | exact i9 | omega, by first | exact i11 | omega⟩, by first | exact i10 | omega, hrt⟩), (show (f221 9).toInt = (f 9).toInt from by first | exact oz_e13fc83238 e169 e225 e198 | omega), (show (f221 17).toInt = (f 17).toInt from by first | exact oz_e13fc83238 e170 e226 e199 | omega), (show (f221 21).toInt = 0 from by first | exact e227 | omega), (show (f221 15).toInt = (f 15).toInt from by first | exact oz_e13fc83238 e172 e228 e201 | omega), (show (f221 20).toInt = (f 20).toInt from by first | exact oz_e13fc83238 e173 e229 e202 | omega)⟩) d_Txp_access_67
  · have nc164 : ¬ p0.toInt = (3 : Int) := mt (i_eq (x := p0) (y := 3)).mpr c164
    refine lv_iload_n S.x S.b d_Txp_access_5 rfl (lv_at hl 1 rfl) ?_
    refine lv_iconst (v := 4) S.x S.b d_Txp_access_6 (by decide) ?_
    refine lv_icmp_ne (tgt := 17) S.x S.b d_Txp_access_7 (by decide) (fun c231 => ?_) (fun c231 => ?_)
    · have nc231 : ¬ p0.toInt = (4 : Int) := mt (i_eq (x := p0) (y := 4)).mpr c231
      refine lv_iconst (v := 0) S.x S.b d_Txp_access_17 (by decide) ?_
      refine lv_istore (lv' := [(6, .int 0), (0, .ref h), (1, .int p0), (2, .int p1), (3, .int p2), (4, .int p3), (5, .int p4)]) S.x S.b d_Txp_access_18 hl (by decide) rfl (fun ls hl => ?_)
      refine lv_iload_n S.x S.b d_Txp_access_20 rfl (lv_at hl 4 rfl) ?_
      refine lv_iconst (v := 4) S.x S.b d_Txp_access_21 (by decide) ?_
      refine lv_iand S.x S.b d_Txp_access_22 ?_
      refine lv_topi (fun z232 ez232 => ?_)
      have lz232 := Int32.le_toInt z232
      have uz232 := Int32.toInt_lt z232
      refine lv_if_eq (tgt := 33) S.x S.b d_Txp_access_23 (by decide) (fun c233 => ?_) (fun c233 => ?_)
      · have nc233 : z232.toInt = (0 : Int) := (i_eq (x := z232) (y := 0)).mp c233
        refine lv_iconst (v := 0) S.x S.b d_Txp_access_33 (by decide) ?_
        refine lv_istore (lv' := [(7, .int 0), (6, .int 0), (0, .ref h), (1, .int p0), (2, .int p1), (3, .int p2), (4, .int p3), (5, .int p4)]) S.x S.b d_Txp_access_34 hl (by decide) rfl (fun ls hl => ?_)
        refine lv_iload_n S.x S.b d_Txp_access_36 rfl (lv_at hl 5 rfl) ?_
        refine lv_iconst (v := 4) S.x S.b d_Txp_access_37 (by decide) ?_
        refine lv_iand S.x S.b d_Txp_access_38 ?_
        refine lv_topi (fun z234 ez234 => ?_)
        have lz234 := Int32.le_toInt z234
        have uz234 := Int32.toInt_lt z234
        refine lv_if_eq (tgt := 68) S.x S.b d_Txp_access_39 (by decide) (fun c235 => ?_) (fun c235 => ?_)
        · have nc235 : z234.toInt = (0 : Int) := (i_eq (x := z234) (y := 0)).mp c235
          first | exact J68 f a (0 : Int32) (0 : Int32) _ _ ls (show TxOk (f 4) (f 5) (f 8) (f 9) (f 17) (f 21) (a 2) from ⟨lk, ⟨i2, i3⟩, ⟨i4, i5⟩, ⟨i6, i7⟩, i8, ⟨i9, i11⟩, i10, hrt⟩) (show (f 9).toInt = (f 9).toInt from rfl) (show (f 17).toInt = (f 17).toInt from rfl) (show (f 21).toInt = 0 from g0) (show (f 15).toInt = (f 15).toInt from rfl) (show (f 20).toInt = (f 20).toInt from rfl) hw (lv_sub hl [2, 3, 4, 5, 6, 7, 1, 0] rfl) | exact J68 f a (0 : Int32) (0 : Int32) _ _ ls (show TxOk (f 4) (f 5) (f 8) (f 9) (f 17) (f 21) (a 2) from ⟨lk, ⟨by first | exact i2 | omega, by first | exact i3 | omega⟩, ⟨by first | exact i4 | omega, by first | exact i5 | omega⟩, ⟨by first | exact i6 | omega, by first | exact i7 | omega⟩, by first | exact i8 | omega, ⟨by first | exact i9 | omega, by first | exact i11 | omega⟩, by first | exact i10 | omega, hrt⟩) (show (f 9).toInt = (f 9).toInt from rfl) (show (f 17).toInt = (f 17).toInt from rfl) (show (f 21).toInt = 0 from by first | exact g0 | omega) (show (f 15).toInt = (f 15).toInt from rfl) (show (f 20).toInt = (f 20).toInt from rfl) hw (lv_sub hl [2, 3, 4, 5, 6, 7, 1, 0] rfl)
        · have nc235 : ¬ z234.toInt = (0 : Int) := mt (i_eq (x := z234) (y := 0)).mpr c235
          refine lv_iload S.x S.b d_Txp_access_42 (lv_at hl 0 rfl) ?_
          refine lv_if_lt (tgt := 61) S.x S.b d_Txp_access_44 (by decide) (fun c236 => ?_) (fun c236 => ?_)
          · exact absurd c236 (by decide)
          ·
            refine lv_iload S.x S.b d_Txp_access_47 (lv_at hl 0 rfl) ?_
            refine lv_aload_n S.x S.b d_Txp_access_49 rfl (lv_at hl 2 rfl) ?_
            refine lv_iload_n S.x S.b d_Txp_access_50 rfl (lv_at hl 5 rfl) ?_
            refine lv_iload S.x S.b d_Txp_access_51 (lv_at hl 6 rfl) ?_
            refine lv_iload S.x S.b d_Txp_access_53 (lv_at hl 7 rfl) ?_
            first | refine px_calli (pr := []) (px_runV (As := [.int p2, .int p3, .int p4]) (rest := [.int 0]) S (c_Txp_rowLength l D cs h r g hp f a p2 p3 p4  (show TxOk (f 4) (f 5) (f 8) (f 9) (f 17) (f 21) (a 2) from ⟨lk, ⟨i2, i3⟩, ⟨i4, i5⟩, ⟨i6, i7⟩, i8, ⟨i9, i11⟩, i10, hrt⟩) _) hT (pr := []) (pcs := [wd_Txp cs h r (fun k => if k = 3 then (some hp) else none) f a g]) hw px_X.tt (px_recv hT hw 0 0 rfl rfl rfl) m9_43 m9_40 m9_42 ms_7_6 m1_35 q_Txp_rowLength ⟨Nat.le_of_ble_eq_true rfl, Nat.le_of_ble_eq_true rfl⟩ hl.1 rfl (Nat.le_of_ble_eq_true rfl) d_Txp_access_55 ⟨Nat.le_of_ble_eq_true rfl, Nat.le_of_ble_eq_true rfl⟩) hw hA (fun v238 p237 H locs hp237 hw => ?_) | refine px_calli (pr := []) (px_runV (As := [.int p2, .int p3, .int p4]) (rest := [.int 0]) S (c_Txp_rowLength l D cs h r g hp f a p2 p3 p4  (show TxOk (f 4) (f 5) (f 8) (f 9) (f 17) (f 21) (a 2) from ⟨lk, ⟨by first | exact i2 | omega, by first | exact i3 | omega⟩, ⟨by first | exact i4 | omega, by first | exact i5 | omega⟩, ⟨by first | exact i6 | omega, by first | exact i7 | omega⟩, by first | exact i8 | omega, ⟨by first | exact i9 | omega, by first | exact i11 | omega⟩, by first | exact i10 | omega, hrt⟩) _) hT (pr := []) (pcs := [wd_Txp cs h r (fun k => if k = 3 then (some hp) else none) f a g]) hw px_X.tt (px_recv hT hw 0 0 rfl rfl rfl) m9_43 m9_40 m9_42 ms_7_6 m1_35 q_Txp_rowLength ⟨Nat.le_of_ble_eq_true rfl, Nat.le_of_ble_eq_true rfl⟩ hl.1 rfl (Nat.le_of_ble_eq_true rfl) d_Txp_access_55 ⟨Nat.le_of_ble_eq_true rfl, Nat.le_of_ble_eq_true rfl⟩) hw hA (fun v238 p237 H locs hp237 hw => ?_)
            subst hp237
            have lv238 := Int32.le_toInt v238
            have uv238 := Int32.toInt_lt v238
            refine lv_icmp_lt (tgt := 68) S.x S.b d_Txp_access_58 (by decide) (fun c239 => ?_) (fun c239 => ?_)
            · have nc239 : (0 : Int) < v238.toInt := (i_lt (x := 0) (y := v238)).mp c239
              first | exact J68 f a (0 : Int32) (0 : Int32) _ _ ls (show TxOk (f 4) (f 5) (f 8) (f 9) (f 17) (f 21) (a 2) from ⟨lk, ⟨i2, i3⟩, ⟨i4, i5⟩, ⟨i6, i7⟩, i8, ⟨i9, i11⟩, i10, hrt⟩) (show (f 9).toInt = (f 9).toInt from rfl) (show (f 17).toInt = (f 17).toInt from rfl) (show (f 21).toInt = 0 from g0) (show (f 15).toInt = (f 15).toInt from rfl) (show (f 20).toInt = (f 20).toInt from rfl) hw (lv_sub hl [2, 3, 4, 5, 6, 7, 1, 0] rfl) | exact J68 f a (0 : Int32) (0 : Int32) _ _ ls (show TxOk (f 4) (f 5) (f 8) (f 9) (f 17) (f 21) (a 2) from ⟨lk, ⟨by first | exact i2 | omega, by first | exact i3 | omega⟩, ⟨by first | exact i4 | omega, by first | exact i5 | omega⟩, ⟨by first | exact i6 | omega, by first | exact i7 | omega⟩, by first | exact i8 | omega, ⟨by first | exact i9 | omega, by first | exact i11 | omega⟩, by first | exact i10 | omega, hrt⟩) (show (f 9).toInt = (f 9).toInt from rfl) (show (f 17).toInt = (f 17).toInt from rfl) (show (f 21).toInt = 0 from by first | exact g0 | omega) (show (f 15).toInt = (f 15).toInt from rfl) (show (f 20).toInt = (f 20).toInt from rfl) hw (lv_sub hl [2, 3, 4, 5, 6, 7, 1, 0] rfl)
            · have nc239 : ¬ (0 : Int) < v238.toInt := mt (i_lt (x := 0) (y := v238)).mpr c239
              refine lv_aload_n S.x S.b d_Txp_access_61 rfl (lv_at hl 2 rfl) ?_
              refine lv_iconst (v := 2) S.x S.b d_Txp_access_62 (by decide) ?_
              refine lv_iconst (v := 0) S.x S.b d_Txp_access_63 (by decide) ?_
              first | refine px_callv (pr := []) (px_runU (As := [.int 2, .int 0]) (rest := []) S (c_finish_Txp l D cs h r g hp f a 2 0  (show TxOk (f 4) (f 5) (f 8) (f 9) (f 17) (f 21) (a 2) from ⟨lk, ⟨i2, i3⟩, ⟨i4, i5⟩, ⟨i6, i7⟩, i8, ⟨i9, i11⟩, i10, hrt⟩) _) hT (pr := []) (pcs := [wd_Txp cs h r (fun k => if k = 3 then (some hp) else none) f a g]) hw px_X.tt (C := "HomeSystem$TextProcess") (x := ⟨"HomeSystem$TextProcess", "finish", "(II)V"⟩) (px_recv hT hw 0 0 rfl rfl rfl) m8_89 m9_5 m9_6 m8_85 m9_7 m1_33 rfl q_HomeSystem_AnyProcess_finish ⟨Nat.le_of_ble_eq_true rfl, Nat.le_of_ble_eq_true rfl⟩ hl.1 rfl (Nat.le_of_ble_eq_true rfl) d_Txp_access_64 ⟨Nat.le_of_ble_eq_true rfl, Nat.le_of_ble_eq_true rfl⟩) hw hA (fun p242 H locs hp242 hw => ?_) | refine px_callv (pr := []) (px_runU (As := [.int 2, .int 0]) (rest := []) S (c_finish_Txp l D cs h r g hp f a 2 0  (show TxOk (f 4) (f 5) (f 8) (f 9) (f 17) (f 21) (a 2) from ⟨lk, ⟨by first | exact i2 | omega, by first | exact i3 | omega⟩, ⟨by first | exact i4 | omega, by first | exact i5 | omega⟩, ⟨by first | exact i6 | omega, by first | exact i7 | omega⟩, by first | exact i8 | omega, ⟨by first | exact i9 | omega, by first | exact i11 | omega⟩, by first | exact i10 | omega, hrt⟩) _) hT (pr := []) (pcs := [wd_Txp cs h r (fun k => if k = 3 then (some hp) else none) f a g]) hw px_X.tt (C := "HomeSystem$TextProcess") (x := ⟨"HomeSystem$TextProcess", "finish", "(II)V"⟩) (px_recv hT hw 0 0 rfl rfl rfl) m8_89 m9_5 m9_6 m8_85 m9_7 m1_33 rfl q_HomeSystem_AnyProcess_finish ⟨Nat.le_of_ble_eq_true rfl, Nat.le_of_ble_eq_true rfl⟩ hl.1 rfl (Nat.le_of_ble_eq_true rfl) d_Txp_access_64 ⟨Nat.le_of_ble_eq_true rfl, Nat.le_of_ble_eq_true rfl⟩) hw hA (fun p242 H locs hp242 hw => ?_)
              obtain ⟨f240, a241, rfl, h249, e244, e245, e246, e247, e248⟩ := hp242
              obtain ⟨lk, ⟨i2, i3⟩, ⟨i4, i5⟩, ⟨i6, i7⟩, i8, ⟨i9, i11⟩, i10, hrt⟩ := h249
              have e244 : (f240 9).toInt = (f 9).toInt := e244
              have e245 : (f240 17).toInt = (f 17).toInt := e245
              have e246 : (f240 21).toInt = 0 := e246
              have e247 : (f240 15).toInt = (f 15).toInt := e247
              have e248 : (f240 20).toInt = (f 20).toInt := e248
              first | exact px_vret S hr hlk hAe hw (Nat.le_of_ble_eq_true rfl) (Nat.le_of_ble_eq_true rfl) (⟨f240, a241, rfl, (show TxOk (f240 4) (f240 5) (f240 8) (f240 9) (f240 17) (f240 21) (a241 2) from ⟨lk, ⟨i2, i3⟩, ⟨i4, i5⟩, ⟨i6, i7⟩, i8, ⟨i9, i11⟩, i10, hrt⟩), (show (f240 9).toInt = (f 9).toInt from e244), (show (f240 17).toInt = (f 17).toInt from e245), (show (f240 21).toInt = 0 from e246), (show (f240 15).toInt = (f 15).toInt from e247), (show (f240 20).toInt = (f 20).toInt from e248)⟩) d_Txp_access_67 | exact px_vret S hr hlk hAe hw (Nat.le_of_ble_eq_true rfl) (Nat.le_of_ble_eq_true rfl) (⟨f240, a241, rfl, (show TxOk (f240 4) (f240 5) (f240 8) (f240 9) (f240 17) (f240 21) (a241 2) from ⟨lk, ⟨by first | exact i2 | omega, by first | exact i3 | omega⟩, ⟨by first | exact i4 | omega, by first | exact i5 | omega⟩, ⟨by first | exact i6 | omega, by first | exact i7 | omega⟩, by first | exact i8 | omega, ⟨by first | exact i9 | omega, by first | exact i11 | omega⟩, by first | exact i10 | omega, hrt⟩), (show (f240 9).toInt = (f 9).toInt from by first | exact e244 | omega), (show (f240 17).toInt = (f 17).toInt from by first | exact e245 | omega), (show (f240 21).toInt = 0 from by first | exact e246 | omega), (show (f240 15).toInt = (f 15).toInt from by first | exact e247 | omega), (show (f240 20).toInt = (f 20).toInt from by first | exact e248 | omega)⟩) d_Txp_access_67
      · have nc233 : ¬ z232.toInt = (0 : Int) := mt (i_eq (x := z232) (y := 0)).mpr c233
        refine lv_aload_n S.x S.b d_Txp_access_26 rfl (lv_at hl 1 rfl) ?_
        first | refine px_calli (pr := []) (px_runV (As := []) (rest := []) S (c_Txp_pop l D cs h r g hp f a   (show TxOk (f 4) (f 5) (f 8) (f 9) (f 17) (f 21) (a 2) from ⟨lk, ⟨i2, i3⟩, ⟨i4, i5⟩, ⟨i6, i7⟩, i8, ⟨i9, i11⟩, i10, hrt⟩) _) hT (pr := []) (pcs := [wd_Txp cs h r (fun k => if k = 3 then (some hp) else none) f a g]) hw px_X.tt (px_recv hT hw 0 0 rfl rfl rfl) m9_15 m9_12 m9_14 ms_7_0 m1_35 q_Txp_pop ⟨Nat.le_of_ble_eq_true rfl, Nat.le_of_ble_eq_true rfl⟩ hl.1 rfl (Nat.le_of_ble_eq_true rfl) d_Txp_access_27 ⟨Nat.le_of_ble_eq_true rfl, Nat.le_of_ble_eq_true rfl⟩) hw hA (fun v253 p252 H locs hp252 hw => ?_) | refine px_calli (pr := []) (px_runV (As := []) (rest := []) S (c_Txp_pop l D cs h r g hp f a   (show TxOk (f 4) (f 5) (f 8) (f 9) (f 17) (f 21) (a 2) from ⟨lk, ⟨by first | exact i2 | omega, by first | exact i3 | omega⟩, ⟨by first | exact i4 | omega, by first | exact i5 | omega⟩, ⟨by first | exact i6 | omega, by first | exact i7 | omega⟩, by first | exact i8 | omega, ⟨by first | exact i9 | omega, by first | exact i11 | omega⟩, by first | exact i10 | omega, hrt⟩) _) hT (pr := []) (pcs := [wd_Txp cs h r (fun k => if k = 3 then (some hp) else none) f a g]) hw px_X.tt (px_recv hT hw 0 0 rfl rfl rfl) m9_15 m9_12 m9_14 ms_7_0 m1_35 q_Txp_pop ⟨Nat.le_of_ble_eq_true rfl, Nat.le_of_ble_eq_true rfl⟩ hl.1 rfl (Nat.le_of_ble_eq_true rfl) d_Txp_access_27 ⟨Nat.le_of_ble_eq_true rfl, Nat.le_of_ble_eq_true rfl⟩) hw hA (fun v253 p252 H locs hp252 hw => ?_)
        obtain ⟨f250, a251, rfl, h260, e254, e255, e256, e257, e258, e259⟩ := hp252
        obtain ⟨lk, ⟨i2, i3⟩, ⟨i4, i5⟩, ⟨i6, i7⟩, i8, ⟨i9, i11⟩, i10, hrt⟩ := h260
        have e254 : (f250 9).toInt = (f 9).toInt := e254
        have e255 : (f250 17).toInt = (f 17).toInt := e255
        have e256 : (f250 21).toInt = (f 21).toInt := e256
        have e257 : (f250 15).toInt = (f 15).toInt := e257
        have e258 : (f250 20).toInt = (f 20).toInt := e258
        have e259 : (f250 4).toInt = (f 4).toInt := e259
        have lv253 := Int32.le_toInt v253
        have uv253 := Int32.toInt_lt v253
        refine lv_goto (tgt := 34) S.x S.b d_Txp_access_30 (by decide) ?_
        refine lv_istore (lv' := [(7, .int v253), (6, .int 0), (0, .ref h), (1, .int p0), (2, .int p1), (3, .int p2), (4, .int p3), (5, .int p4)]) S.x S.b d_Txp_access_34 hl (by decide) rfl (fun ls hl => ?_)
        refine lv_iload_n S.x S.b d_Txp_access_36 rfl (lv_at hl 5 rfl) ?_
        refine lv_iconst (v := 4) S.x S.b d_Txp_access_37 (by decide) ?_
        refine lv_iand S.x S.b d_Txp_access_38 ?_
        refine lv_topi (fun z261 ez261 => ?_)
        have lz261 := Int32.le_toInt z261
        have uz261 := Int32.toInt_lt z261
        refine lv_if_eq (tgt := 68) S.x S.b d_Txp_access_39 (by decide) (fun c262 => ?_) (fun c262 => ?_)
        · have nc262 : z261.toInt = (0 : Int) := (i_eq (x := z261) (y := 0)).mp c262
          first | exact J68 f250 a251 (0 : Int32) v253 _ _ ls (show TxOk (f250 4) (f250 5) (f250 8) (f250 9) (f250 17) (f250 21) (a251 2) from ⟨lk, ⟨i2, i3⟩, ⟨i4, i5⟩, ⟨i6, i7⟩, i8, ⟨i9, i11⟩, i10, hrt⟩) (show (f250 9).toInt = (f 9).toInt from e254) (show (f250 17).toInt = (f 17).toInt from e255) (show (f250 21).toInt = 0 from (oz_4193540c58 e256 g0)) (show (f250 15).toInt = (f 15).toInt from e257) (show (f250 20).toInt = (f 20).toInt from e258) hw (lv_sub hl [2, 3, 4, 5, 6, 7, 1, 0] rfl) | exact J68 f250 a251 (0 : Int32) v253 _ _ ls (show TxOk (f250 4) (f250 5) (f250 8) (f250 9) (f250 17) (f250 21) (a251 2) from ⟨lk, ⟨by first | exact i2 | omega, by first | exact i3 | omega⟩, ⟨by first | exact i4 | omega, by first | exact i5 | omega⟩, ⟨by first | exact i6 | omega, by first | exact i7 | omega⟩, by first | exact i8 | omega, ⟨by first | exact i9 | omega, by first | exact i11 | omega⟩, by first | exact i10 | omega, hrt⟩) (show (f250 9).toInt = (f 9).toInt from by first | exact e254 | omega) (show (f250 17).toInt = (f 17).toInt from by first | exact e255 | omega) (show (f250 21).toInt = 0 from by first | exact oz_4193540c58 e256 g0 | omega) (show (f250 15).toInt = (f 15).toInt from by first | exact e257 | omega) (show (f250 20).toInt = (f 20).toInt from by first | exact e258 | omega) hw (lv_sub hl [2, 3, 4, 5, 6, 7, 1, 0] rfl)
        · have nc262 : ¬ z261.toInt = (0 : Int) := mt (i_eq (x := z261) (y := 0)).mpr c262
          refine lv_iload S.x S.b d_Txp_access_42 (lv_at hl 0 rfl) ?_
          refine lv_if_lt (tgt := 61) S.x S.b d_Txp_access_44 (by decide) (fun c263 => ?_) (fun c263 => ?_)
          · have nc263 : v253.toInt < (0 : Int) := (i_lt (x := v253) (y := 0)).mp c263
            refine lv_aload_n S.x S.b d_Txp_access_61 rfl (lv_at hl 2 rfl) ?_
            refine lv_iconst (v := 2) S.x S.b d_Txp_access_62 (by decide) ?_
            refine lv_iconst (v := 0) S.x S.b d_Txp_access_63 (by decide) ?_
            first | refine px_callv (pr := []) (px_runU (As := [.int 2, .int 0]) (rest := []) S (c_finish_Txp l D cs h r g hp f250 a251 2 0  (show TxOk (f250 4) (f250 5) (f250 8) (f250 9) (f250 17) (f250 21) (a251 2) from ⟨lk, ⟨i2, i3⟩, ⟨i4, i5⟩, ⟨i6, i7⟩, i8, ⟨i9, i11⟩, i10, hrt⟩) _) hT (pr := []) (pcs := [wd_Txp cs h r (fun k => if k = 3 then (some hp) else none) f250 a251 g]) hw px_X.tt (C := "HomeSystem$TextProcess") (x := ⟨"HomeSystem$TextProcess", "finish", "(II)V"⟩) (px_recv hT hw 0 0 rfl rfl rfl) m8_89 m9_5 m9_6 m8_85 m9_7 m1_33 rfl q_HomeSystem_AnyProcess_finish ⟨Nat.le_of_ble_eq_true rfl, Nat.le_of_ble_eq_true rfl⟩ hl.1 rfl (Nat.le_of_ble_eq_true rfl) d_Txp_access_64 ⟨Nat.le_of_ble_eq_true rfl, Nat.le_of_ble_eq_true rfl⟩) hw hA (fun p266 H locs hp266 hw => ?_) | refine px_callv (pr := []) (px_runU (As := [.int 2, .int 0]) (rest := []) S (c_finish_Txp l D cs h r g hp f250 a251 2 0  (show TxOk (f250 4) (f250 5) (f250 8) (f250 9) (f250 17) (f250 21) (a251 2) from ⟨lk, ⟨by first | exact i2 | omega, by first | exact i3 | omega⟩, ⟨by first | exact i4 | omega, by first | exact i5 | omega⟩, ⟨by first | exact i6 | omega, by first | exact i7 | omega⟩, by first | exact i8 | omega, ⟨by first | exact i9 | omega, by first | exact i11 | omega⟩, by first | exact i10 | omega, hrt⟩) _) hT (pr := []) (pcs := [wd_Txp cs h r (fun k => if k = 3 then (some hp) else none) f250 a251 g]) hw px_X.tt (C := "HomeSystem$TextProcess") (x := ⟨"HomeSystem$TextProcess", "finish", "(II)V"⟩) (px_recv hT hw 0 0 rfl rfl rfl) m8_89 m9_5 m9_6 m8_85 m9_7 m1_33 rfl q_HomeSystem_AnyProcess_finish ⟨Nat.le_of_ble_eq_true rfl, Nat.le_of_ble_eq_true rfl⟩ hl.1 rfl (Nat.le_of_ble_eq_true rfl) d_Txp_access_64 ⟨Nat.le_of_ble_eq_true rfl, Nat.le_of_ble_eq_true rfl⟩) hw hA (fun p266 H locs hp266 hw => ?_)
            obtain ⟨f264, a265, rfl, h273, e268, e269, e270, e271, e272⟩ := hp266
            obtain ⟨lk, ⟨i2, i3⟩, ⟨i4, i5⟩, ⟨i6, i7⟩, i8, ⟨i9, i11⟩, i10, hrt⟩ := h273
            have e268 : (f264 9).toInt = (f250 9).toInt := e268
            have e269 : (f264 17).toInt = (f250 17).toInt := e269
            have e270 : (f264 21).toInt = 0 := e270
            have e271 : (f264 15).toInt = (f250 15).toInt := e271
            have e272 : (f264 20).toInt = (f250 20).toInt := e272
            first | exact px_vret S hr hlk hAe hw (Nat.le_of_ble_eq_true rfl) (Nat.le_of_ble_eq_true rfl) (⟨f264, a265, rfl, (show TxOk (f264 4) (f264 5) (f264 8) (f264 9) (f264 17) (f264 21) (a265 2) from ⟨lk, ⟨i2, i3⟩, ⟨i4, i5⟩, ⟨i6, i7⟩, i8, ⟨i9, i11⟩, i10, hrt⟩), (show (f264 9).toInt = (f 9).toInt from (oz_1687f4cc65 e254 e268)), (show (f264 17).toInt = (f 17).toInt from (oz_1687f4cc65 e255 e269)), (show (f264 21).toInt = 0 from e270), (show (f264 15).toInt = (f 15).toInt from (oz_1687f4cc65 e257 e271)), (show (f264 20).toInt = (f 20).toInt from (oz_1687f4cc65 e258 e272))⟩) d_Txp_access_67 | exact px_vret S hr hlk hAe hw (Nat.le_of_ble_eq_true rfl) (Nat.le_of_ble_eq_true rfl) (⟨f264, a265, rfl, (show TxOk (f264 4) (f264 5) (f264 8) (f264 9) (f264 17) (f264 21) (a265 2) from ⟨lk, ⟨by first | exact i2 | omega, by first | exact i3 | omega⟩, ⟨by first | exact i4 | omega, by first | exact i5 | omega⟩, ⟨by first | exact i6 | omega, by first | exact i7 | omega⟩, by first | exact i8 | omega, ⟨by first | exact i9 | omega, by first | exact i11 | omega⟩, by first | exact i10 | omega, hrt⟩), (show (f264 9).toInt = (f 9).toInt from by first | exact oz_1687f4cc65 e254 e268 | omega), (show (f264 17).toInt = (f 17).toInt from by first | exact oz_1687f4cc65 e255 e269 | omega), (show (f264 21).toInt = 0 from by first | exact e270 | omega), (show (f264 15).toInt = (f 15).toInt from by first | exact oz_1687f4cc65 e257 e271 | omega), (show (f264 20).toInt = (f 20).toInt from by first | exact oz_1687f4cc65 e258 e272 | omega)⟩) d_Txp_access_67
          · have nc263 : ¬ v253.toInt < (0 : Int) := mt (i_lt (x := v253) (y := 0)).mpr c263
            refine lv_iload S.x S.b d_Txp_access_47 (lv_at hl 0 rfl) ?_
            refine lv_aload_n S.x S.b d_Txp_access_49 rfl (lv_at hl 2 rfl) ?_
            refine lv_iload_n S.x S.b d_Txp_access_50 rfl (lv_at hl 5 rfl) ?_
            refine lv_iload S.x S.b d_Txp_access_51 (lv_at hl 6 rfl) ?_
            refine lv_iload S.x S.b d_Txp_access_53 (lv_at hl 7 rfl) ?_
            first | refine px_calli (pr := []) (px_runV (As := [.int p2, .int p3, .int p4]) (rest := [.int v253]) S (c_Txp_rowLength l D cs h r g hp f250 a251 p2 p3 p4  (show TxOk (f250 4) (f250 5) (f250 8) (f250 9) (f250 17) (f250 21) (a251 2) from ⟨lk, ⟨i2, i3⟩, ⟨i4, i5⟩, ⟨i6, i7⟩, i8, ⟨i9, i11⟩, i10, hrt⟩) _) hT (pr := []) (pcs := [wd_Txp cs h r (fun k => if k = 3 then (some hp) else none) f250 a251 g]) hw px_X.tt (px_recv hT hw 0 0 rfl rfl rfl) m9_43 m9_40 m9_42 ms_7_6 m1_35 q_Txp_rowLength ⟨Nat.le_of_ble_eq_true rfl, Nat.le_of_ble_eq_true rfl⟩ hl.1 rfl (Nat.le_of_ble_eq_true rfl) d_Txp_access_55 ⟨Nat.le_of_ble_eq_true rfl, Nat.le_of_ble_eq_true rfl⟩) hw hA (fun v275 p274 H locs hp274 hw => ?_) | refine px_calli (pr := []) (px_runV (As := [.int p2, .int p3, .int p4]) (rest := [.int v253]) S (c_Txp_rowLength l D cs h r g hp f250 a251 p2 p3 p4  (show TxOk (f250 4) (f250 5) (f250 8) (f250 9) (f250 17) (f250 21) (a251 2) from ⟨lk, ⟨by first | exact i2 | omega, by first | exact i3 | omega⟩, ⟨by first | exact i4 | omega, by first | exact i5 | omega⟩, ⟨by first | exact i6 | omega, by first | exact i7 | omega⟩, by first | exact i8 | omega, ⟨by first | exact i9 | omega, by first | exact i11 | omega⟩, by first | exact i10 | omega, hrt⟩) _) hT (pr := []) (pcs := [wd_Txp cs h r (fun k => if k = 3 then (some hp) else none) f250 a251 g]) hw px_X.tt (px_recv hT hw 0 0 rfl rfl rfl) m9_43 m9_40 m9_42 ms_7_6 m1_35 q_Txp_rowLength ⟨Nat.le_of_ble_eq_true rfl, Nat.le_of_ble_eq_true rfl⟩ hl.1 rfl (Nat.le_of_ble_eq_true rfl) d_Txp_access_55 ⟨Nat.le_of_ble_eq_true rfl, Nat.le_of_ble_eq_true rfl⟩) hw hA (fun v275 p274 H locs hp274 hw => ?_)
            subst hp274
            have lv275 := Int32.le_toInt v275
            have uv275 := Int32.toInt_lt v275
            refine lv_icmp_lt (tgt := 68) S.x S.b d_Txp_access_58 (by decide) (fun c276 => ?_) (fun c276 => ?_)
            · have nc276 : v253.toInt < v275.toInt := (i_lt (x := v253) (y := v275)).mp c276
              first | exact J68 f250 a251 (0 : Int32) v253 _ _ ls (show TxOk (f250 4) (f250 5) (f250 8) (f250 9) (f250 17) (f250 21) (a251 2) from ⟨lk, ⟨i2, i3⟩, ⟨i4, i5⟩, ⟨i6, i7⟩, i8, ⟨i9, i11⟩, i10, hrt⟩) (show (f250 9).toInt = (f 9).toInt from e254) (show (f250 17).toInt = (f 17).toInt from e255) (show (f250 21).toInt = 0 from (oz_4193540c58 e256 g0)) (show (f250 15).toInt = (f 15).toInt from e257) (show (f250 20).toInt = (f 20).toInt from e258) hw (lv_sub hl [2, 3, 4, 5, 6, 7, 1, 0] rfl) | exact J68 f250 a251 (0 : Int32) v253 _ _ ls (show TxOk (f250 4) (f250 5) (f250 8) (f250 9) (f250 17) (f250 21) (a251 2) from ⟨lk, ⟨by first | exact i2 | omega, by first | exact i3 | omega⟩, ⟨by first | exact i4 | omega, by first | exact i5 | omega⟩, ⟨by first | exact i6 | omega, by first | exact i7 | omega⟩, by first | exact i8 | omega, ⟨by first | exact i9 | omega, by first | exact i11 | omega⟩, by first | exact i10 | omega, hrt⟩) (show (f250 9).toInt = (f 9).toInt from by first | exact e254 | omega) (show (f250 17).toInt = (f 17).toInt from by first | exact e255 | omega) (show (f250 21).toInt = 0 from by first | exact oz_4193540c58 e256 g0 | omega) (show (f250 15).toInt = (f 15).toInt from by first | exact e257 | omega) (show (f250 20).toInt = (f 20).toInt from by first | exact e258 | omega) hw (lv_sub hl [2, 3, 4, 5, 6, 7, 1, 0] rfl)
            · have nc276 : ¬ v253.toInt < v275.toInt := mt (i_lt (x := v253) (y := v275)).mpr c276
              refine lv_aload_n S.x S.b d_Txp_access_61 rfl (lv_at hl 2 rfl) ?_
              refine lv_iconst (v := 2) S.x S.b d_Txp_access_62 (by decide) ?_
              refine lv_iconst (v := 0) S.x S.b d_Txp_access_63 (by decide) ?_
              first | refine px_callv (pr := []) (px_runU (As := [.int 2, .int 0]) (rest := []) S (c_finish_Txp l D cs h r g hp f250 a251 2 0  (show TxOk (f250 4) (f250 5) (f250 8) (f250 9) (f250 17) (f250 21) (a251 2) from ⟨lk, ⟨i2, i3⟩, ⟨i4, i5⟩, ⟨i6, i7⟩, i8, ⟨i9, i11⟩, i10, hrt⟩) _) hT (pr := []) (pcs := [wd_Txp cs h r (fun k => if k = 3 then (some hp) else none) f250 a251 g]) hw px_X.tt (C := "HomeSystem$TextProcess") (x := ⟨"HomeSystem$TextProcess", "finish", "(II)V"⟩) (px_recv hT hw 0 0 rfl rfl rfl) m8_89 m9_5 m9_6 m8_85 m9_7 m1_33 rfl q_HomeSystem_AnyProcess_finish ⟨Nat.le_of_ble_eq_true rfl, Nat.le_of_ble_eq_true rfl⟩ hl.1 rfl (Nat.le_of_ble_eq_true rfl) d_Txp_access_64 ⟨Nat.le_of_ble_eq_true rfl, Nat.le_of_ble_eq_true rfl⟩) hw hA (fun p279 H locs hp279 hw => ?_) | refine px_callv (pr := []) (px_runU (As := [.int 2, .int 0]) (rest := []) S (c_finish_Txp l D cs h r g hp f250 a251 2 0  (show TxOk (f250 4) (f250 5) (f250 8) (f250 9) (f250 17) (f250 21) (a251 2) from ⟨lk, ⟨by first | exact i2 | omega, by first | exact i3 | omega⟩, ⟨by first | exact i4 | omega, by first | exact i5 | omega⟩, ⟨by first | exact i6 | omega, by first | exact i7 | omega⟩, by first | exact i8 | omega, ⟨by first | exact i9 | omega, by first | exact i11 | omega⟩, by first | exact i10 | omega, hrt⟩) _) hT (pr := []) (pcs := [wd_Txp cs h r (fun k => if k = 3 then (some hp) else none) f250 a251 g]) hw px_X.tt (C := "HomeSystem$TextProcess") (x := ⟨"HomeSystem$TextProcess", "finish", "(II)V"⟩) (px_recv hT hw 0 0 rfl rfl rfl) m8_89 m9_5 m9_6 m8_85 m9_7 m1_33 rfl q_HomeSystem_AnyProcess_finish ⟨Nat.le_of_ble_eq_true rfl, Nat.le_of_ble_eq_true rfl⟩ hl.1 rfl (Nat.le_of_ble_eq_true rfl) d_Txp_access_64 ⟨Nat.le_of_ble_eq_true rfl, Nat.le_of_ble_eq_true rfl⟩) hw hA (fun p279 H locs hp279 hw => ?_)
              obtain ⟨f277, a278, rfl, h286, e281, e282, e283, e284, e285⟩ := hp279
              obtain ⟨lk, ⟨i2, i3⟩, ⟨i4, i5⟩, ⟨i6, i7⟩, i8, ⟨i9, i11⟩, i10, hrt⟩ := h286
              have e281 : (f277 9).toInt = (f250 9).toInt := e281
              have e282 : (f277 17).toInt = (f250 17).toInt := e282
              have e283 : (f277 21).toInt = 0 := e283
              have e284 : (f277 15).toInt = (f250 15).toInt := e284
              have e285 : (f277 20).toInt = (f250 20).toInt := e285
              first | exact px_vret S hr hlk hAe hw (Nat.le_of_ble_eq_true rfl) (Nat.le_of_ble_eq_true rfl) (⟨f277, a278, rfl, (show TxOk (f277 4) (f277 5) (f277 8) (f277 9) (f277 17) (f277 21) (a278 2) from ⟨lk, ⟨i2, i3⟩, ⟨i4, i5⟩, ⟨i6, i7⟩, i8, ⟨i9, i11⟩, i10, hrt⟩), (show (f277 9).toInt = (f 9).toInt from (oz_1687f4cc65 e254 e281)), (show (f277 17).toInt = (f 17).toInt from (oz_1687f4cc65 e255 e282)), (show (f277 21).toInt = 0 from e283), (show (f277 15).toInt = (f 15).toInt from (oz_1687f4cc65 e257 e284)), (show (f277 20).toInt = (f 20).toInt from (oz_1687f4cc65 e258 e285))⟩) d_Txp_access_67 | exact px_vret S hr hlk hAe hw (Nat.le_of_ble_eq_true rfl) (Nat.le_of_ble_eq_true rfl) (⟨f277, a278, rfl, (show TxOk (f277 4) (f277 5) (f277 8) (f277 9) (f277 17) (f277 21) (a278 2) from ⟨lk, ⟨by first | exact i2 | omega, by first | exact i3 | omega⟩, ⟨by first | exact i4 | omega, by first | exact i5 | omega⟩, ⟨by first | exact i6 | omega, by first | exact i7 | omega⟩, by first | exact i8 | omega, ⟨by first | exact i9 | omega, by first | exact i11 | omega⟩, by first | exact i10 | omega, hrt⟩), (show (f277 9).toInt = (f 9).toInt from by first | exact oz_1687f4cc65 e254 e281 | omega), (show (f277 17).toInt = (f 17).toInt from by first | exact oz_1687f4cc65 e255 e282 | omega), (show (f277 21).toInt = 0 from by first | exact e283 | omega), (show (f277 15).toInt = (f 15).toInt from by first | exact oz_1687f4cc65 e257 e284 | omega), (show (f277 20).toInt = (f 20).toInt from by first | exact oz_1687f4cc65 e258 e285 | omega)⟩) d_Txp_access_67
    · have nc231 : p0.toInt = (4 : Int) := (i_eq (x := p0) (y := 4)).mp c231
      refine lv_aload_n S.x S.b d_Txp_access_10 rfl (lv_at hl 0 rfl) ?_
      first | refine px_calli (pr := []) (px_runV (As := []) (rest := []) S (c_Txp_pop l D cs h r g hp f a   (show TxOk (f 4) (f 5) (f 8) (f 9) (f 17) (f 21) (a 2) from ⟨lk, ⟨i2, i3⟩, ⟨i4, i5⟩, ⟨i6, i7⟩, i8, ⟨i9, i11⟩, i10, hrt⟩) _) hT (pr := []) (pcs := [wd_Txp cs h r (fun k => if k = 3 then (some hp) else none) f a g]) hw px_X.tt (px_recv hT hw 0 0 rfl rfl rfl) m9_15 m9_12 m9_14 ms_7_0 m1_35 q_Txp_pop ⟨Nat.le_of_ble_eq_true rfl, Nat.le_of_ble_eq_true rfl⟩ hl.1 rfl (Nat.le_of_ble_eq_true rfl) d_Txp_access_11 ⟨Nat.le_of_ble_eq_true rfl, Nat.le_of_ble_eq_true rfl⟩) hw hA (fun v290 p289 H locs hp289 hw => ?_) | refine px_calli (pr := []) (px_runV (As := []) (rest := []) S (c_Txp_pop l D cs h r g hp f a   (show TxOk (f 4) (f 5) (f 8) (f 9) (f 17) (f 21) (a 2) from ⟨lk, ⟨by first | exact i2 | omega, by first | exact i3 | omega⟩, ⟨by first | exact i4 | omega, by first | exact i5 | omega⟩, ⟨by first | exact i6 | omega, by first | exact i7 | omega⟩, by first | exact i8 | omega, ⟨by first | exact i9 | omega, by first | exact i11 | omega⟩, by first | exact i10 | omega, hrt⟩) _) hT (pr := []) (pcs := [wd_Txp cs h r (fun k => if k = 3 then (some hp) else none) f a g]) hw px_X.tt (px_recv hT hw 0 0 rfl rfl rfl) m9_15 m9_12 m9_14 ms_7_0 m1_35 q_Txp_pop ⟨Nat.le_of_ble_eq_true rfl, Nat.le_of_ble_eq_true rfl⟩ hl.1 rfl (Nat.le_of_ble_eq_true rfl) d_Txp_access_11 ⟨Nat.le_of_ble_eq_true rfl, Nat.le_of_ble_eq_true rfl⟩) hw hA (fun v290 p289 H locs hp289 hw => ?_)
      obtain ⟨f287, a288, rfl, h297, e291, e292, e293, e294, e295, e296⟩ := hp289
      obtain ⟨lk, ⟨i2, i3⟩, ⟨i4, i5⟩, ⟨i6, i7⟩, i8, ⟨i9, i11⟩, i10, hrt⟩ := h297
      have e291 : (f287 9).toInt = (f 9).toInt := e291
      have e292 : (f287 17).toInt = (f 17).toInt := e292
      have e293 : (f287 21).toInt = (f 21).toInt := e293
      have e294 : (f287 15).toInt = (f 15).toInt := e294
      have e295 : (f287 20).toInt = (f 20).toInt := e295
      have e296 : (f287 4).toInt = (f 4).toInt := e296
      have lv290 := Int32.le_toInt v290
      have uv290 := Int32.toInt_lt v290
      refine lv_goto (tgt := 18) S.x S.b d_Txp_access_14 (by decide) ?_
      refine lv_istore (lv' := [(6, .int v290), (0, .ref h), (1, .int p0), (2, .int p1), (3, .int p2), (4, .int p3), (5, .int p4)]) S.x S.b d_Txp_access_18 hl (by decide) rfl (fun ls hl => ?_)
      refine lv_iload_n S.x S.b d_Txp_access_20 rfl (lv_at hl 4 rfl) ?_
      refine lv_iconst (v := 4) S.x S.b d_Txp_access_21 (by decide) ?_
      refine lv_iand S.x S.b d_Txp_access_22 ?_
      refine lv_topi (fun z298 ez298 => ?_)
      have lz298 := Int32.le_toInt z298
      have uz298 := Int32.toInt_lt z298
      refine lv_if_eq (tgt := 33) S.x S.b d_Txp_access_23 (by decide) (fun c299 => ?_) (fun c299 => ?_)
      · have nc299 : z298.toInt = (0 : Int) := (i_eq (x := z298) (y := 0)).mp c299
        refine lv_iconst (v := 0) S.x S.b d_Txp_access_33 (by decide) ?_
        refine lv_istore (lv' := [(7, .int 0), (6, .int v290), (0, .ref h), (1, .int p0), (2, .int p1), (3, .int p2), (4, .int p3), (5, .int p4)]) S.x S.b d_Txp_access_34 hl (by decide) rfl (fun ls hl => ?_)
        refine lv_iload_n S.x S.b d_Txp_access_36 rfl (lv_at hl 5 rfl) ?_
        refine lv_iconst (v := 4) S.x S.b d_Txp_access_37 (by decide) ?_
        refine lv_iand S.x S.b d_Txp_access_38 ?_
        refine lv_topi (fun z300 ez300 => ?_)
        have lz300 := Int32.le_toInt z300
        have uz300 := Int32.toInt_lt z300
        refine lv_if_eq (tgt := 68) S.x S.b d_Txp_access_39 (by decide) (fun c301 => ?_) (fun c301 => ?_)
        · have nc301 : z300.toInt = (0 : Int) := (i_eq (x := z300) (y := 0)).mp c301
          first | exact J68 f287 a288 v290 (0 : Int32) _ _ ls (show TxOk (f287 4) (f287 5) (f287 8) (f287 9) (f287 17) (f287 21) (a288 2) from ⟨lk, ⟨i2, i3⟩, ⟨i4, i5⟩, ⟨i6, i7⟩, i8, ⟨i9, i11⟩, i10, hrt⟩) (show (f287 9).toInt = (f 9).toInt from e291) (show (f287 17).toInt = (f 17).toInt from e292) (show (f287 21).toInt = 0 from (oz_4193540c58 e293 g0)) (show (f287 15).toInt = (f 15).toInt from e294) (show (f287 20).toInt = (f 20).toInt from e295) hw (lv_sub hl [2, 3, 4, 5, 6, 7, 1, 0] rfl) | exact J68 f287 a288 v290 (0 : Int32) _ _ ls (show TxOk (f287 4) (f287 5) (f287 8) (f287 9) (f287 17) (f287 21) (a288 2) from ⟨lk, ⟨by first | exact i2 | omega, by first | exact i3 | omega⟩, ⟨by first | exact i4 | omega, by first | exact i5 | omega⟩, ⟨by first | exact i6 | omega, by first | exact i7 | omega⟩, by first | exact i8 | omega, ⟨by first | exact i9 | omega, by first | exact i11 | omega⟩, by first | exact i10 | omega, hrt⟩) (show (f287 9).toInt = (f 9).toInt from by first | exact e291 | omega) (show (f287 17).toInt = (f 17).toInt from by first | exact e292 | omega) (show (f287 21).toInt = 0 from by first | exact oz_4193540c58 e293 g0 | omega) (show (f287 15).toInt = (f 15).toInt from by first | exact e294 | omega) (show (f287 20).toInt = (f 20).toInt from by first | exact e295 | omega) hw (lv_sub hl [2, 3, 4, 5, 6, 7, 1, 0] rfl)
        · have nc301 : ¬ z300.toInt = (0 : Int) := mt (i_eq (x := z300) (y := 0)).mpr c301
          refine lv_iload S.x S.b d_Txp_access_42 (lv_at hl 0 rfl) ?_
          refine lv_if_lt (tgt := 61) S.x S.b d_Txp_access_44 (by decide) (fun c302 => ?_) (fun c302 => ?_)
          · exact absurd c302 (by decide)
          ·
            refine lv_iload S.x S.b d_Txp_access_47 (lv_at hl 0 rfl) ?_
            refine lv_aload_n S.x S.b d_Txp_access_49 rfl (lv_at hl 2 rfl) ?_
            refine lv_iload_n S.x S.b d_Txp_access_50 rfl (lv_at hl 5 rfl) ?_
            refine lv_iload S.x S.b d_Txp_access_51 (lv_at hl 6 rfl) ?_
            refine lv_iload S.x S.b d_Txp_access_53 (lv_at hl 7 rfl) ?_
            first | refine px_calli (pr := []) (px_runV (As := [.int p2, .int p3, .int p4]) (rest := [.int 0]) S (c_Txp_rowLength l D cs h r g hp f287 a288 p2 p3 p4  (show TxOk (f287 4) (f287 5) (f287 8) (f287 9) (f287 17) (f287 21) (a288 2) from ⟨lk, ⟨i2, i3⟩, ⟨i4, i5⟩, ⟨i6, i7⟩, i8, ⟨i9, i11⟩, i10, hrt⟩) _) hT (pr := []) (pcs := [wd_Txp cs h r (fun k => if k = 3 then (some hp) else none) f287 a288 g]) hw px_X.tt (px_recv hT hw 0 0 rfl rfl rfl) m9_43 m9_40 m9_42 ms_7_6 m1_35 q_Txp_rowLength ⟨Nat.le_of_ble_eq_true rfl, Nat.le_of_ble_eq_true rfl⟩ hl.1 rfl (Nat.le_of_ble_eq_true rfl) d_Txp_access_55 ⟨Nat.le_of_ble_eq_true rfl, Nat.le_of_ble_eq_true rfl⟩) hw hA (fun v304 p303 H locs hp303 hw => ?_) | refine px_calli (pr := []) (px_runV (As := [.int p2, .int p3, .int p4]) (rest := [.int 0]) S (c_Txp_rowLength l D cs h r g hp f287 a288 p2 p3 p4  (show TxOk (f287 4) (f287 5) (f287 8) (f287 9) (f287 17) (f287 21) (a288 2) from ⟨lk, ⟨by first | exact i2 | omega, by first | exact i3 | omega⟩, ⟨by first | exact i4 | omega, by first | exact i5 | omega⟩, ⟨by first | exact i6 | omega, by first | exact i7 | omega⟩, by first | exact i8 | omega, ⟨by first | exact i9 | omega, by first | exact i11 | omega⟩, by first | exact i10 | omega, hrt⟩) _) hT (pr := []) (pcs := [wd_Txp cs h r (fun k => if k = 3 then (some hp) else none) f287 a288 g]) hw px_X.tt (px_recv hT hw 0 0 rfl rfl rfl) m9_43 m9_40 m9_42 ms_7_6 m1_35 q_Txp_rowLength ⟨Nat.le_of_ble_eq_true rfl, Nat.le_of_ble_eq_true rfl⟩ hl.1 rfl (Nat.le_of_ble_eq_true rfl) d_Txp_access_55 ⟨Nat.le_of_ble_eq_true rfl, Nat.le_of_ble_eq_true rfl⟩) hw hA (fun v304 p303 H locs hp303 hw => ?_)
            subst hp303
            have lv304 := Int32.le_toInt v304
            have uv304 := Int32.toInt_lt v304
            refine lv_icmp_lt (tgt := 68) S.x S.b d_Txp_access_58 (by decide) (fun c305 => ?_) (fun c305 => ?_)
            · have nc305 : (0 : Int) < v304.toInt := (i_lt (x := 0) (y := v304)).mp c305
              first | exact J68 f287 a288 v290 (0 : Int32) _ _ ls (show TxOk (f287 4) (f287 5) (f287 8) (f287 9) (f287 17) (f287 21) (a288 2) from ⟨lk, ⟨i2, i3⟩, ⟨i4, i5⟩, ⟨i6, i7⟩, i8, ⟨i9, i11⟩, i10, hrt⟩) (show (f287 9).toInt = (f 9).toInt from e291) (show (f287 17).toInt = (f 17).toInt from e292) (show (f287 21).toInt = 0 from (oz_4193540c58 e293 g0)) (show (f287 15).toInt = (f 15).toInt from e294) (show (f287 20).toInt = (f 20).toInt from e295) hw (lv_sub hl [2, 3, 4, 5, 6, 7, 1, 0] rfl) | exact J68 f287 a288 v290 (0 : Int32) _ _ ls (show TxOk (f287 4) (f287 5) (f287 8) (f287 9) (f287 17) (f287 21) (a288 2) from ⟨lk, ⟨by first | exact i2 | omega, by first | exact i3 | omega⟩, ⟨by first | exact i4 | omega, by first | exact i5 | omega⟩, ⟨by first | exact i6 | omega, by first | exact i7 | omega⟩, by first | exact i8 | omega, ⟨by first | exact i9 | omega, by first | exact i11 | omega⟩, by first | exact i10 | omega, hrt⟩) (show (f287 9).toInt = (f 9).toInt from by first | exact e291 | omega) (show (f287 17).toInt = (f 17).toInt from by first | exact e292 | omega) (show (f287 21).toInt = 0 from by first | exact oz_4193540c58 e293 g0 | omega) (show (f287 15).toInt = (f 15).toInt from by first | exact e294 | omega) (show (f287 20).toInt = (f 20).toInt from by first | exact e295 | omega) hw (lv_sub hl [2, 3, 4, 5, 6, 7, 1, 0] rfl)
            · have nc305 : ¬ (0 : Int) < v304.toInt := mt (i_lt (x := 0) (y := v304)).mpr c305
              refine lv_aload_n S.x S.b d_Txp_access_61 rfl (lv_at hl 2 rfl) ?_
              refine lv_iconst (v := 2) S.x S.b d_Txp_access_62 (by decide) ?_
              refine lv_iconst (v := 0) S.x S.b d_Txp_access_63 (by decide) ?_
              first | refine px_callv (pr := []) (px_runU (As := [.int 2, .int 0]) (rest := []) S (c_finish_Txp l D cs h r g hp f287 a288 2 0  (show TxOk (f287 4) (f287 5) (f287 8) (f287 9) (f287 17) (f287 21) (a288 2) from ⟨lk, ⟨i2, i3⟩, ⟨i4, i5⟩, ⟨i6, i7⟩, i8, ⟨i9, i11⟩, i10, hrt⟩) _) hT (pr := []) (pcs := [wd_Txp cs h r (fun k => if k = 3 then (some hp) else none) f287 a288 g]) hw px_X.tt (C := "HomeSystem$TextProcess") (x := ⟨"HomeSystem$TextProcess", "finish", "(II)V"⟩) (px_recv hT hw 0 0 rfl rfl rfl) m8_89 m9_5 m9_6 m8_85 m9_7 m1_33 rfl q_HomeSystem_AnyProcess_finish ⟨Nat.le_of_ble_eq_true rfl, Nat.le_of_ble_eq_true rfl⟩ hl.1 rfl (Nat.le_of_ble_eq_true rfl) d_Txp_access_64 ⟨Nat.le_of_ble_eq_true rfl, Nat.le_of_ble_eq_true rfl⟩) hw hA (fun p308 H locs hp308 hw => ?_) | refine px_callv (pr := []) (px_runU (As := [.int 2, .int 0]) (rest := []) S (c_finish_Txp l D cs h r g hp f287 a288 2 0  (show TxOk (f287 4) (f287 5) (f287 8) (f287 9) (f287 17) (f287 21) (a288 2) from ⟨lk, ⟨by first | exact i2 | omega, by first | exact i3 | omega⟩, ⟨by first | exact i4 | omega, by first | exact i5 | omega⟩, ⟨by first | exact i6 | omega, by first | exact i7 | omega⟩, by first | exact i8 | omega, ⟨by first | exact i9 | omega, by first | exact i11 | omega⟩, by first | exact i10 | omega, hrt⟩) _) hT (pr := []) (pcs := [wd_Txp cs h r (fun k => if k = 3 then (some hp) else none) f287 a288 g]) hw px_X.tt (C := "HomeSystem$TextProcess") (x := ⟨"HomeSystem$TextProcess", "finish", "(II)V"⟩) (px_recv hT hw 0 0 rfl rfl rfl) m8_89 m9_5 m9_6 m8_85 m9_7 m1_33 rfl q_HomeSystem_AnyProcess_finish ⟨Nat.le_of_ble_eq_true rfl, Nat.le_of_ble_eq_true rfl⟩ hl.1 rfl (Nat.le_of_ble_eq_true rfl) d_Txp_access_64 ⟨Nat.le_of_ble_eq_true rfl, Nat.le_of_ble_eq_true rfl⟩) hw hA (fun p308 H locs hp308 hw => ?_)
              obtain ⟨f306, a307, rfl, h315, e310, e311, e312, e313, e314⟩ := hp308
              obtain ⟨lk, ⟨i2, i3⟩, ⟨i4, i5⟩, ⟨i6, i7⟩, i8, ⟨i9, i11⟩, i10, hrt⟩ := h315
              have e310 : (f306 9).toInt = (f287 9).toInt := e310
              have e311 : (f306 17).toInt = (f287 17).toInt := e311
              have e312 : (f306 21).toInt = 0 := e312
              have e313 : (f306 15).toInt = (f287 15).toInt := e313
              have e314 : (f306 20).toInt = (f287 20).toInt := e314
              first | exact px_vret S hr hlk hAe hw (Nat.le_of_ble_eq_true rfl) (Nat.le_of_ble_eq_true rfl) (⟨f306, a307, rfl, (show TxOk (f306 4) (f306 5) (f306 8) (f306 9) (f306 17) (f306 21) (a307 2) from ⟨lk, ⟨i2, i3⟩, ⟨i4, i5⟩, ⟨i6, i7⟩, i8, ⟨i9, i11⟩, i10, hrt⟩), (show (f306 9).toInt = (f 9).toInt from (oz_1687f4cc65 e291 e310)), (show (f306 17).toInt = (f 17).toInt from (oz_1687f4cc65 e292 e311)), (show (f306 21).toInt = 0 from e312), (show (f306 15).toInt = (f 15).toInt from (oz_1687f4cc65 e294 e313)), (show (f306 20).toInt = (f 20).toInt from (oz_1687f4cc65 e295 e314))⟩) d_Txp_access_67 | exact px_vret S hr hlk hAe hw (Nat.le_of_ble_eq_true rfl) (Nat.le_of_ble_eq_true rfl) (⟨f306, a307, rfl, (show TxOk (f306 4) (f306 5) (f306 8) (f306 9) (f306 17) (f306 21) (a307 2) from ⟨lk, ⟨by first | exact i2 | omega, by first | exact i3 | omega⟩, ⟨by first | exact i4 | omega, by first | exact i5 | omega⟩, ⟨by first | exact i6 | omega, by first | exact i7 | omega⟩, by first | exact i8 | omega, ⟨by first | exact i9 | omega, by first | exact i11 | omega⟩, by first | exact i10 | omega, hrt⟩), (show (f306 9).toInt = (f 9).toInt from by first | exact oz_1687f4cc65 e291 e310 | omega), (show (f306 17).toInt = (f 17).toInt from by first | exact oz_1687f4cc65 e292 e311 | omega), (show (f306 21).toInt = 0 from by first | exact e312 | omega), (show (f306 15).toInt = (f 15).toInt from by first | exact oz_1687f4cc65 e294 e313 | omega), (show (f306 20).toInt = (f 20).toInt from by first | exact oz_1687f4cc65 e295 e314 | omega)⟩) d_Txp_access_67
      · have nc299 : ¬ z298.toInt = (0 : Int) := mt (i_eq (x := z298) (y := 0)).mpr c299
        refine lv_aload_n S.x S.b d_Txp_access_26 rfl (lv_at hl 1 rfl) ?_
        first | refine px_calli (pr := []) (px_runV (As := []) (rest := []) S (c_Txp_pop l D cs h r g hp f287 a288   (show TxOk (f287 4) (f287 5) (f287 8) (f287 9) (f287 17) (f287 21) (a288 2) from ⟨lk, ⟨i2, i3⟩, ⟨i4, i5⟩, ⟨i6, i7⟩, i8, ⟨i9, i11⟩, i10, hrt⟩) _) hT (pr := []) (pcs := [wd_Txp cs h r (fun k => if k = 3 then (some hp) else none) f287 a288 g]) hw px_X.tt (px_recv hT hw 0 0 rfl rfl rfl) m9_15 m9_12 m9_14 ms_7_0 m1_35 q_Txp_pop ⟨Nat.le_of_ble_eq_true rfl, Nat.le_of_ble_eq_true rfl⟩ hl.1 rfl (Nat.le_of_ble_eq_true rfl) d_Txp_access_27 ⟨Nat.le_of_ble_eq_true rfl, Nat.le_of_ble_eq_true rfl⟩) hw hA (fun v319 p318 H locs hp318 hw => ?_) | refine px_calli (pr := []) (px_runV (As := []) (rest := []) S (c_Txp_pop l D cs h r g hp f287 a288   (show TxOk (f287 4) (f287 5) (f287 8) (f287 9) (f287 17) (f287 21) (a288 2) from ⟨lk, ⟨by first | exact i2 | omega, by first | exact i3 | omega⟩, ⟨by first | exact i4 | omega, by first | exact i5 | omega⟩, ⟨by first | exact i6 | omega, by first | exact i7 | omega⟩, by first | exact i8 | omega, ⟨by first | exact i9 | omega, by first | exact i11 | omega⟩, by first | exact i10 | omega, hrt⟩) _) hT (pr := []) (pcs := [wd_Txp cs h r (fun k => if k = 3 then (some hp) else none) f287 a288 g]) hw px_X.tt (px_recv hT hw 0 0 rfl rfl rfl) m9_15 m9_12 m9_14 ms_7_0 m1_35 q_Txp_pop ⟨Nat.le_of_ble_eq_true rfl, Nat.le_of_ble_eq_true rfl⟩ hl.1 rfl (Nat.le_of_ble_eq_true rfl) d_Txp_access_27 ⟨Nat.le_of_ble_eq_true rfl, Nat.le_of_ble_eq_true rfl⟩) hw hA (fun v319 p318 H locs hp318 hw => ?_)
        obtain ⟨f316, a317, rfl, h326, e320, e321, e322, e323, e324, e325⟩ := hp318
        obtain ⟨lk, ⟨i2, i3⟩, ⟨i4, i5⟩, ⟨i6, i7⟩, i8, ⟨i9, i11⟩, i10, hrt⟩ := h326
        have e320 : (f316 9).toInt = (f287 9).toInt := e320
        have e321 : (f316 17).toInt = (f287 17).toInt := e321
        have e322 : (f316 21).toInt = (f287 21).toInt := e322
        have e323 : (f316 15).toInt = (f287 15).toInt := e323
        have e324 : (f316 20).toInt = (f287 20).toInt := e324
        have e325 : (f316 4).toInt = (f287 4).toInt := e325
        have lv319 := Int32.le_toInt v319
        have uv319 := Int32.toInt_lt v319
        refine lv_goto (tgt := 34) S.x S.b d_Txp_access_30 (by decide) ?_
        refine lv_istore (lv' := [(7, .int v319), (6, .int v290), (0, .ref h), (1, .int p0), (2, .int p1), (3, .int p2), (4, .int p3), (5, .int p4)]) S.x S.b d_Txp_access_34 hl (by decide) rfl (fun ls hl => ?_)
        refine lv_iload_n S.x S.b d_Txp_access_36 rfl (lv_at hl 5 rfl) ?_
        refine lv_iconst (v := 4) S.x S.b d_Txp_access_37 (by decide) ?_
        refine lv_iand S.x S.b d_Txp_access_38 ?_
        refine lv_topi (fun z327 ez327 => ?_)
        have lz327 := Int32.le_toInt z327
        have uz327 := Int32.toInt_lt z327
        refine lv_if_eq (tgt := 68) S.x S.b d_Txp_access_39 (by decide) (fun c328 => ?_) (fun c328 => ?_)
        · have nc328 : z327.toInt = (0 : Int) := (i_eq (x := z327) (y := 0)).mp c328
          first | exact J68 f316 a317 v290 v319 _ _ ls (show TxOk (f316 4) (f316 5) (f316 8) (f316 9) (f316 17) (f316 21) (a317 2) from ⟨lk, ⟨i2, i3⟩, ⟨i4, i5⟩, ⟨i6, i7⟩, i8, ⟨i9, i11⟩, i10, hrt⟩) (show (f316 9).toInt = (f 9).toInt from (oz_1687f4cc65 e291 e320)) (show (f316 17).toInt = (f 17).toInt from (oz_1687f4cc65 e292 e321)) (show (f316 21).toInt = 0 from (oz_06db467756 e322 e293 g0 i9)) (show (f316 15).toInt = (f 15).toInt from (oz_1687f4cc65 e294 e323)) (show (f316 20).toInt = (f 20).toInt from (oz_1687f4cc65 e295 e324)) hw (lv_sub hl [2, 3, 4, 5, 6, 7, 1, 0] rfl) | exact J68 f316 a317 v290 v319 _ _ ls (show TxOk (f316 4) (f316 5) (f316 8) (f316 9) (f316 17) (f316 21) (a317 2) from ⟨lk, ⟨by first | exact i2 | omega, by first | exact i3 | omega⟩, ⟨by first | exact i4 | omega, by first | exact i5 | omega⟩, ⟨by first | exact i6 | omega, by first | exact i7 | omega⟩, by first | exact i8 | omega, ⟨by first | exact i9 | omega, by first | exact i11 | omega⟩, by first | exact i10 | omega, hrt⟩) (show (f316 9).toInt = (f 9).toInt from by first | exact oz_1687f4cc65 e291 e320 | omega) (show (f316 17).toInt = (f 17).toInt from by first | exact oz_1687f4cc65 e292 e321 | omega) (show (f316 21).toInt = 0 from by first | exact oz_06db467756 e322 e293 g0 i9 | omega) (show (f316 15).toInt = (f 15).toInt from by first | exact oz_1687f4cc65 e294 e323 | omega) (show (f316 20).toInt = (f 20).toInt from by first | exact oz_1687f4cc65 e295 e324 | omega) hw (lv_sub hl [2, 3, 4, 5, 6, 7, 1, 0] rfl)
        · have nc328 : ¬ z327.toInt = (0 : Int) := mt (i_eq (x := z327) (y := 0)).mpr c328
          refine lv_iload S.x S.b d_Txp_access_42 (lv_at hl 0 rfl) ?_
          refine lv_if_lt (tgt := 61) S.x S.b d_Txp_access_44 (by decide) (fun c329 => ?_) (fun c329 => ?_)
          · have nc329 : v319.toInt < (0 : Int) := (i_lt (x := v319) (y := 0)).mp c329
            refine lv_aload_n S.x S.b d_Txp_access_61 rfl (lv_at hl 2 rfl) ?_
            refine lv_iconst (v := 2) S.x S.b d_Txp_access_62 (by decide) ?_
            refine lv_iconst (v := 0) S.x S.b d_Txp_access_63 (by decide) ?_
            first | refine px_callv (pr := []) (px_runU (As := [.int 2, .int 0]) (rest := []) S (c_finish_Txp l D cs h r g hp f316 a317 2 0  (show TxOk (f316 4) (f316 5) (f316 8) (f316 9) (f316 17) (f316 21) (a317 2) from ⟨lk, ⟨i2, i3⟩, ⟨i4, i5⟩, ⟨i6, i7⟩, i8, ⟨i9, i11⟩, i10, hrt⟩) _) hT (pr := []) (pcs := [wd_Txp cs h r (fun k => if k = 3 then (some hp) else none) f316 a317 g]) hw px_X.tt (C := "HomeSystem$TextProcess") (x := ⟨"HomeSystem$TextProcess", "finish", "(II)V"⟩) (px_recv hT hw 0 0 rfl rfl rfl) m8_89 m9_5 m9_6 m8_85 m9_7 m1_33 rfl q_HomeSystem_AnyProcess_finish ⟨Nat.le_of_ble_eq_true rfl, Nat.le_of_ble_eq_true rfl⟩ hl.1 rfl (Nat.le_of_ble_eq_true rfl) d_Txp_access_64 ⟨Nat.le_of_ble_eq_true rfl, Nat.le_of_ble_eq_true rfl⟩) hw hA (fun p332 H locs hp332 hw => ?_) | refine px_callv (pr := []) (px_runU (As := [.int 2, .int 0]) (rest := []) S (c_finish_Txp l D cs h r g hp f316 a317 2 0  (show TxOk (f316 4) (f316 5) (f316 8) (f316 9) (f316 17) (f316 21) (a317 2) from ⟨lk, ⟨by first | exact i2 | omega, by first | exact i3 | omega⟩, ⟨by first | exact i4 | omega, by first | exact i5 | omega⟩, ⟨by first | exact i6 | omega, by first | exact i7 | omega⟩, by first | exact i8 | omega, ⟨by first | exact i9 | omega, by first | exact i11 | omega⟩, by first | exact i10 | omega, hrt⟩) _) hT (pr := []) (pcs := [wd_Txp cs h r (fun k => if k = 3 then (some hp) else none) f316 a317 g]) hw px_X.tt (C := "HomeSystem$TextProcess") (x := ⟨"HomeSystem$TextProcess", "finish", "(II)V"⟩) (px_recv hT hw 0 0 rfl rfl rfl) m8_89 m9_5 m9_6 m8_85 m9_7 m1_33 rfl q_HomeSystem_AnyProcess_finish ⟨Nat.le_of_ble_eq_true rfl, Nat.le_of_ble_eq_true rfl⟩ hl.1 rfl (Nat.le_of_ble_eq_true rfl) d_Txp_access_64 ⟨Nat.le_of_ble_eq_true rfl, Nat.le_of_ble_eq_true rfl⟩) hw hA (fun p332 H locs hp332 hw => ?_)
            obtain ⟨f330, a331, rfl, h339, e334, e335, e336, e337, e338⟩ := hp332
            obtain ⟨lk, ⟨i2, i3⟩, ⟨i4, i5⟩, ⟨i6, i7⟩, i8, ⟨i9, i11⟩, i10, hrt⟩ := h339
            have e334 : (f330 9).toInt = (f316 9).toInt := e334
            have e335 : (f330 17).toInt = (f316 17).toInt := e335
            have e336 : (f330 21).toInt = 0 := e336
            have e337 : (f330 15).toInt = (f316 15).toInt := e337
            have e338 : (f330 20).toInt = (f316 20).toInt := e338
            first | exact px_vret S hr hlk hAe hw (Nat.le_of_ble_eq_true rfl) (Nat.le_of_ble_eq_true rfl) (⟨f330, a331, rfl, (show TxOk (f330 4) (f330 5) (f330 8) (f330 9) (f330 17) (f330 21) (a331 2) from ⟨lk, ⟨i2, i3⟩, ⟨i4, i5⟩, ⟨i6, i7⟩, i8, ⟨i9, i11⟩, i10, hrt⟩), (show (f330 9).toInt = (f 9).toInt from (oz_e13fc83238 e291 e334 e320)), (show (f330 17).toInt = (f 17).toInt from (oz_e13fc83238 e292 e335 e321)), (show (f330 21).toInt = 0 from e336), (show (f330 15).toInt = (f 15).toInt from (oz_e13fc83238 e294 e337 e323)), (show (f330 20).toInt = (f 20).toInt from (oz_e13fc83238 e295 e338 e324))⟩) d_Txp_access_67 | exact px_vret S hr hlk hAe hw (Nat.le_of_ble_eq_true rfl) (Nat.le_of_ble_eq_true rfl) (⟨f330, a331, rfl, (show TxOk (f330 4) (f330 5) (f330 8) (f330 9) (f330 17) (f330 21) (a331 2) from ⟨lk, ⟨by first | exact i2 | omega, by first | exact i3 | omega⟩, ⟨by first | exact i4 | omega, by first | exact i5 | omega⟩, ⟨by first | exact i6 | omega, by first | exact i7 | omega⟩, by first | exact i8 | omega, ⟨by first | exact i9 | omega, by first | exact i11 | omega⟩, by first | exact i10 | omega, hrt⟩), (show (f330 9).toInt = (f 9).toInt from by first | exact oz_e13fc83238 e291 e334 e320 | omega), (show (f330 17).toInt = (f 17).toInt from by first | exact oz_e13fc83238 e292 e335 e321 | omega), (show (f330 21).toInt = 0 from by first | exact e336 | omega), (show (f330 15).toInt = (f 15).toInt from by first | exact oz_e13fc83238 e294 e337 e323 | omega), (show (f330 20).toInt = (f 20).toInt from by first | exact oz_e13fc83238 e295 e338 e324 | omega)⟩) d_Txp_access_67
          · have nc329 : ¬ v319.toInt < (0 : Int) := mt (i_lt (x := v319) (y := 0)).mpr c329
            refine lv_iload S.x S.b d_Txp_access_47 (lv_at hl 0 rfl) ?_
            refine lv_aload_n S.x S.b d_Txp_access_49 rfl (lv_at hl 2 rfl) ?_
            refine lv_iload_n S.x S.b d_Txp_access_50 rfl (lv_at hl 5 rfl) ?_
            refine lv_iload S.x S.b d_Txp_access_51 (lv_at hl 6 rfl) ?_
            refine lv_iload S.x S.b d_Txp_access_53 (lv_at hl 7 rfl) ?_
            first | refine px_calli (pr := []) (px_runV (As := [.int p2, .int p3, .int p4]) (rest := [.int v319]) S (c_Txp_rowLength l D cs h r g hp f316 a317 p2 p3 p4  (show TxOk (f316 4) (f316 5) (f316 8) (f316 9) (f316 17) (f316 21) (a317 2) from ⟨lk, ⟨i2, i3⟩, ⟨i4, i5⟩, ⟨i6, i7⟩, i8, ⟨i9, i11⟩, i10, hrt⟩) _) hT (pr := []) (pcs := [wd_Txp cs h r (fun k => if k = 3 then (some hp) else none) f316 a317 g]) hw px_X.tt (px_recv hT hw 0 0 rfl rfl rfl) m9_43 m9_40 m9_42 ms_7_6 m1_35 q_Txp_rowLength ⟨Nat.le_of_ble_eq_true rfl, Nat.le_of_ble_eq_true rfl⟩ hl.1 rfl (Nat.le_of_ble_eq_true rfl) d_Txp_access_55 ⟨Nat.le_of_ble_eq_true rfl, Nat.le_of_ble_eq_true rfl⟩) hw hA (fun v341 p340 H locs hp340 hw => ?_) | refine px_calli (pr := []) (px_runV (As := [.int p2, .int p3, .int p4]) (rest := [.int v319]) S (c_Txp_rowLength l D cs h r g hp f316 a317 p2 p3 p4  (show TxOk (f316 4) (f316 5) (f316 8) (f316 9) (f316 17) (f316 21) (a317 2) from ⟨lk, ⟨by first | exact i2 | omega, by first | exact i3 | omega⟩, ⟨by first | exact i4 | omega, by first | exact i5 | omega⟩, ⟨by first | exact i6 | omega, by first | exact i7 | omega⟩, by first | exact i8 | omega, ⟨by first | exact i9 | omega, by first | exact i11 | omega⟩, by first | exact i10 | omega, hrt⟩) _) hT (pr := []) (pcs := [wd_Txp cs h r (fun k => if k = 3 then (some hp) else none) f316 a317 g]) hw px_X.tt (px_recv hT hw 0 0 rfl rfl rfl) m9_43 m9_40 m9_42 ms_7_6 m1_35 q_Txp_rowLength ⟨Nat.le_of_ble_eq_true rfl, Nat.le_of_ble_eq_true rfl⟩ hl.1 rfl (Nat.le_of_ble_eq_true rfl) d_Txp_access_55 ⟨Nat.le_of_ble_eq_true rfl, Nat.le_of_ble_eq_true rfl⟩) hw hA (fun v341 p340 H locs hp340 hw => ?_)
            subst hp340
            have lv341 := Int32.le_toInt v341
            have uv341 := Int32.toInt_lt v341
            refine lv_icmp_lt (tgt := 68) S.x S.b d_Txp_access_58 (by decide) (fun c342 => ?_) (fun c342 => ?_)
            · have nc342 : v319.toInt < v341.toInt := (i_lt (x := v319) (y := v341)).mp c342
              first | exact J68 f316 a317 v290 v319 _ _ ls (show TxOk (f316 4) (f316 5) (f316 8) (f316 9) (f316 17) (f316 21) (a317 2) from ⟨lk, ⟨i2, i3⟩, ⟨i4, i5⟩, ⟨i6, i7⟩, i8, ⟨i9, i11⟩, i10, hrt⟩) (show (f316 9).toInt = (f 9).toInt from (oz_1687f4cc65 e291 e320)) (show (f316 17).toInt = (f 17).toInt from (oz_1687f4cc65 e292 e321)) (show (f316 21).toInt = 0 from (oz_06db467756 e322 e293 g0 i9)) (show (f316 15).toInt = (f 15).toInt from (oz_1687f4cc65 e294 e323)) (show (f316 20).toInt = (f 20).toInt from (oz_1687f4cc65 e295 e324)) hw (lv_sub hl [2, 3, 4, 5, 6, 7, 1, 0] rfl) | exact J68 f316 a317 v290 v319 _ _ ls (show TxOk (f316 4) (f316 5) (f316 8) (f316 9) (f316 17) (f316 21) (a317 2) from ⟨lk, ⟨by first | exact i2 | omega, by first | exact i3 | omega⟩, ⟨by first | exact i4 | omega, by first | exact i5 | omega⟩, ⟨by first | exact i6 | omega, by first | exact i7 | omega⟩, by first | exact i8 | omega, ⟨by first | exact i9 | omega, by first | exact i11 | omega⟩, by first | exact i10 | omega, hrt⟩) (show (f316 9).toInt = (f 9).toInt from by first | exact oz_1687f4cc65 e291 e320 | omega) (show (f316 17).toInt = (f 17).toInt from by first | exact oz_1687f4cc65 e292 e321 | omega) (show (f316 21).toInt = 0 from by first | exact oz_06db467756 e322 e293 g0 i9 | omega) (show (f316 15).toInt = (f 15).toInt from by first | exact oz_1687f4cc65 e294 e323 | omega) (show (f316 20).toInt = (f 20).toInt from by first | exact oz_1687f4cc65 e295 e324 | omega) hw (lv_sub hl [2, 3, 4, 5, 6, 7, 1, 0] rfl)
            · have nc342 : ¬ v319.toInt < v341.toInt := mt (i_lt (x := v319) (y := v341)).mpr c342
              refine lv_aload_n S.x S.b d_Txp_access_61 rfl (lv_at hl 2 rfl) ?_
              refine lv_iconst (v := 2) S.x S.b d_Txp_access_62 (by decide) ?_
              refine lv_iconst (v := 0) S.x S.b d_Txp_access_63 (by decide) ?_
              first | refine px_callv (pr := []) (px_runU (As := [.int 2, .int 0]) (rest := []) S (c_finish_Txp l D cs h r g hp f316 a317 2 0  (show TxOk (f316 4) (f316 5) (f316 8) (f316 9) (f316 17) (f316 21) (a317 2) from ⟨lk, ⟨i2, i3⟩, ⟨i4, i5⟩, ⟨i6, i7⟩, i8, ⟨i9, i11⟩, i10, hrt⟩) _) hT (pr := []) (pcs := [wd_Txp cs h r (fun k => if k = 3 then (some hp) else none) f316 a317 g]) hw px_X.tt (C := "HomeSystem$TextProcess") (x := ⟨"HomeSystem$TextProcess", "finish", "(II)V"⟩) (px_recv hT hw 0 0 rfl rfl rfl) m8_89 m9_5 m9_6 m8_85 m9_7 m1_33 rfl q_HomeSystem_AnyProcess_finish ⟨Nat.le_of_ble_eq_true rfl, Nat.le_of_ble_eq_true rfl⟩ hl.1 rfl (Nat.le_of_ble_eq_true rfl) d_Txp_access_64 ⟨Nat.le_of_ble_eq_true rfl, Nat.le_of_ble_eq_true rfl⟩) hw hA (fun p345 H locs hp345 hw => ?_) | refine px_callv (pr := []) (px_runU (As := [.int 2, .int 0]) (rest := []) S (c_finish_Txp l D cs h r g hp f316 a317 2 0  (show TxOk (f316 4) (f316 5) (f316 8) (f316 9) (f316 17) (f316 21) (a317 2) from ⟨lk, ⟨by first | exact i2 | omega, by first | exact i3 | omega⟩, ⟨by first | exact i4 | omega, by first | exact i5 | omega⟩, ⟨by first | exact i6 | omega, by first | exact i7 | omega⟩, by first | exact i8 | omega, ⟨by first | exact i9 | omega, by first | exact i11 | omega⟩, by first | exact i10 | omega, hrt⟩) _) hT (pr := []) (pcs := [wd_Txp cs h r (fun k => if k = 3 then (some hp) else none) f316 a317 g]) hw px_X.tt (C := "HomeSystem$TextProcess") (x := ⟨"HomeSystem$TextProcess", "finish", "(II)V"⟩) (px_recv hT hw 0 0 rfl rfl rfl) m8_89 m9_5 m9_6 m8_85 m9_7 m1_33 rfl q_HomeSystem_AnyProcess_finish ⟨Nat.le_of_ble_eq_true rfl, Nat.le_of_ble_eq_true rfl⟩ hl.1 rfl (Nat.le_of_ble_eq_true rfl) d_Txp_access_64 ⟨Nat.le_of_ble_eq_true rfl, Nat.le_of_ble_eq_true rfl⟩) hw hA (fun p345 H locs hp345 hw => ?_)
              obtain ⟨f343, a344, rfl, h352, e347, e348, e349, e350, e351⟩ := hp345
              obtain ⟨lk, ⟨i2, i3⟩, ⟨i4, i5⟩, ⟨i6, i7⟩, i8, ⟨i9, i11⟩, i10, hrt⟩ := h352
              have e347 : (f343 9).toInt = (f316 9).toInt := e347
              have e348 : (f343 17).toInt = (f316 17).toInt := e348
              have e349 : (f343 21).toInt = 0 := e349
              have e350 : (f343 15).toInt = (f316 15).toInt := e350
              have e351 : (f343 20).toInt = (f316 20).toInt := e351
              first | exact px_vret S hr hlk hAe hw (Nat.le_of_ble_eq_true rfl) (Nat.le_of_ble_eq_true rfl) (⟨f343, a344, rfl, (show TxOk (f343 4) (f343 5) (f343 8) (f343 9) (f343 17) (f343 21) (a344 2) from ⟨lk, ⟨i2, i3⟩, ⟨i4, i5⟩, ⟨i6, i7⟩, i8, ⟨i9, i11⟩, i10, hrt⟩), (show (f343 9).toInt = (f 9).toInt from (oz_e13fc83238 e291 e347 e320)), (show (f343 17).toInt = (f 17).toInt from (oz_e13fc83238 e292 e348 e321)), (show (f343 21).toInt = 0 from e349), (show (f343 15).toInt = (f 15).toInt from (oz_e13fc83238 e294 e350 e323)), (show (f343 20).toInt = (f 20).toInt from (oz_e13fc83238 e295 e351 e324))⟩) d_Txp_access_67 | exact px_vret S hr hlk hAe hw (Nat.le_of_ble_eq_true rfl) (Nat.le_of_ble_eq_true rfl) (⟨f343, a344, rfl, (show TxOk (f343 4) (f343 5) (f343 8) (f343 9) (f343 17) (f343 21) (a344 2) from ⟨lk, ⟨by first | exact i2 | omega, by first | exact i3 | omega⟩, ⟨by first | exact i4 | omega, by first | exact i5 | omega⟩, ⟨by first | exact i6 | omega, by first | exact i7 | omega⟩, by first | exact i8 | omega, ⟨by first | exact i9 | omega, by first | exact i11 | omega⟩, by first | exact i10 | omega, hrt⟩), (show (f343 9).toInt = (f 9).toInt from by first | exact oz_e13fc83238 e291 e347 e320 | omega), (show (f343 17).toInt = (f 17).toInt from by first | exact oz_e13fc83238 e292 e348 e321 | omega), (show (f343 21).toInt = 0 from by first | exact e349 | omega), (show (f343 15).toInt = (f 15).toInt from by first | exact oz_e13fc83238 e294 e350 e323 | omega), (show (f343 20).toInt = (f 20).toInt from by first | exact oz_e13fc83238 e295 e351 e324 | omega)⟩) d_Txp_access_67
