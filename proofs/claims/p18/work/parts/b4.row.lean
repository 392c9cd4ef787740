theorem oz_6a9f12b40a {a0 a1 a2 a3 : Int} (h0 : a1 - a2 ≤ 4096 * (a0 - a3)) (h1 : 0 ≤ a2) (h2 : a2 ≤ 4 + 4096 * a3) (h3 : a2 ≤ a1) : 0 ≤ a0 := by omega
theorem oz_c501c098b4 {a0 a1 a2 a3 : Int} (h0 : a0 - a2 ≤ 4096 * (a1 - a3)) (h1 : a2 ≤ 4096 * a3) : a0 ≤ 4096 * a1 := by omega
theorem oz_658acb1b4c {a0 a1 a2 a3 : Int} (h0 : a0 - a2 ≤ 4096 * (a1 - a3)) (h1 : a2 ≤ 4 + 4096 * a3) : a0 ≤ 4 + 4096 * a1 := by omega
theorem oz_fd63dfae6d {a0 a2 : Int} {n1 : Nat} (h0 : a2 + (n1 : Int) ≤ 400) (h1 : a0 = a2) : a0 + (n1 : Int) ≤ 400 := by omega
theorem oz_4c0c19d25c {n0 : Nat}  : (6 * n0 + 26) + 1 ≤ (6 * n0 + 27) := by omega
theorem oz_8151bee62e {n0 : Nat}  : 8 + (3 + 11) + (260 * n0 + 900) ≤ (260 * n0 + 940) := by omega
theorem oz_ed5ab580af {a0 a1 a2 a3 a4 a5 : Int} (h0 : 6 * a5 ≤ 6 * a1 + (a2 - a3)) (h1 : 6 * a0 ≤ 6 * a5 + (a4)) : 6 * a0 ≤ 6 * a1 + (a2 - (a3 - a4)) := by omega
theorem oz_b78d9f65b9 {a0 a1 a2 a3 a4 a5 : Int} (h0 : a2 - a3 ≤ 4096 * (a4 - a0)) (h1 : a5 - a2 ≤ 4096 * (a1 - a4)) (h2 : a3 ≤ a2) (h3 : a2 ≤ a5) : a0 ≤ a1 := by omega
theorem oz_7f5bac6b34 {a0 a1 a2 a3 a4 a5 : Int} (h0 : a4 - a1 ≤ 4 * (a5 - a3)) (h1 : a0 - a4 ≤ 4 * (a2 - a5)) : a0 - a1 ≤ 4 * (a2 - a3) := by omega
theorem oz_f877ead219 {a0 a1 a2 a3 a4 a5 : Int} (h0 : a4 - a1 ≤ 4096 * (a5 - a3)) (h1 : a0 - a4 ≤ 4096 * (a2 - a5)) : a0 - a1 ≤ 4096 * (a2 - a3) := by omega
theorem oz_d50b28d761 {a0 a1 a2 a3 a4 a5 : Int} (h0 : 6 * a3 ≤ 6 * a4 + (a2 - a0)) (h1 : 6 * a5 ≤ 6 * a3 + (a1)) (h2 : a4 ≤ a3) (h3 : a3 ≤ a5) : (a0 - a1) ≤ a2 := by omega
theorem oz_9eb0cd343c {n0 : Nat}  : (6 * n0 + 27) + 1 ≤ (6 * n0 + 28) := by omega
theorem oz_5adadded27 {n0 : Nat}  : 8 + (3 + 11) + (260 * n0 + 940) ≤ (260 * n0 + 980) := by omega
theorem oz_5b1e8b107d {n0 : Nat}  : 0 + 1 ≤ (6 * n0 + 28) := by omega
theorem oz_fe417197f6 {n0 : Nat}  : 8 + (3 + 11) + 0 ≤ (260 * n0 + 980) := by omega
theorem oz_73dc218776 {a0 a1 a2 a3 a4 a5 a6 : Int} (h0 : a2 - a3 ≤ 4096 * (a4 - a0)) (h1 : a1 = a4) (h2 : a5 ≤ a6) (h3 : a6 - a5 ≤ 4 * (a2 - a3)) : a0 ≤ a1 := by omega
theorem oz_68efb193db {a0 a1 a2 a3 : Int} (h0 : 6 * a3 ≤ 6 * a1 + (a2)) (h1 : a0 = a3) : 6 * a0 ≤ 6 * a1 + (a2) := by omega
theorem oz_94ff7ee8ed {a0 a1 a2 a3 a4 : Int} (h0 : a2 - a3 ≤ 4 * (a4 - a0)) (h1 : a1 = a4) (h2 : a3 ≤ a2) : a0 ≤ a1 := by omega
theorem oz_4001d13b45 {a0 a1 a2 a3 a4 a5 : Int} (h0 : a4 - a1 ≤ 4 * (a5 - a3)) (h1 : a2 = a5) (h2 : a0 = a4) : a0 - a1 ≤ 4 * (a2 - a3) := by omega
theorem oz_761fc723f5 {a0 a1 a2 a3 a4 a5 : Int} (h0 : a4 - a1 ≤ 4096 * (a5 - a3)) (h1 : a2 = a5) (h2 : a0 = a4) : a0 - a1 ≤ 4096 * (a2 - a3) := by omega
theorem oz_0e7a26fe4a {a0 a1 a2 a3 a4 a5 : Int} (h0 : a4 - a1 ≤ 4096 * (a5 - a3)) (h1 : a0 = a4) (h2 : a2 = a5) : a0 - a1 ≤ 4096 * (a2 - a3) := by omega
theorem oz_06ad533572 {a0 a2 : Int} {n1 : Nat} (h0 : a2 + (n1 : Int) + 1 ≤ 400) (h1 : a0 = a2 + (1 : Int)) : a0 + (n1 : Int) ≤ 400 := by omega
theorem oz_61a5b4c47c {a0 a1 a2 a3 : Int} (h0 : a2 = a1 + (1 : Int)) (h1 : a0 = a3 - (1 : Int)) (h2 : a3 = a2) : a0 = a1 := by omega
theorem oz_6fea180d23  : 1 ≤ (11 : Int) := by omega
theorem oz_d1d6e9fd93 {n0 : Nat}  : 0 + 1 ≤ (6 * n0 + 27) := by omega
theorem oz_bb12660973 {n0 : Nat}  : 8 + (3 + 11) + 0 ≤ (260 * n0 + 940) := by omega
theorem oz_092373726c {a0 a1 a2 : Int} (h0 : 0 ≤ a2) (h1 : a0 = a1) : 6 * a0 ≤ 6 * a1 + (a2) := by omega
theorem oz_7f23dbcb5f {a0 a1 a2 a3 : Int} (h0 : a2 = a3) (h1 : a0 = a1) : a0 - a1 ≤ 4 * (a2 - a3) := by omega
theorem oz_a2be20d97d {a0 a1 a2 a3 : Int} (h0 : a2 = a3) (h1 : a0 = a1) : a0 - a1 ≤ 4096 * (a2 - a3) := by omega
theorem oz_fb996a10c4 {n0 : Nat}  : (4 * n0 + 12) + 1 ≤ (6 * n0 + 27) := by omega
theorem oz_d6614ca526 {n0 : Nat}  : 8 + (8 + 11) + (200 * n0 + 420) ≤ (260 * n0 + 940) := by omega
theorem oz_48fba83842 {a0 a1 a2 a3 : Int} (h0 : 0 ≤ a2) (h1 : a3 = a1) (h2 : a0 = a3) : 6 * a0 ≤ 6 * a1 + (a2) := by omega
theorem oz_609cf4b982 {a0 a1 a2 a3 a4 a5 : Int} (h0 : a4 = a3) (h1 : a5 = a1) (h2 : a2 = a4) (h3 : a0 = a5) : a0 - a1 ≤ 4 * (a2 - a3) := by omega
theorem oz_9a318b6183 {a0 a1 a2 a3 a4 a5 : Int} (h0 : a4 = a3) (h1 : a5 = a1) (h2 : a2 = a4) (h3 : a0 = a5) : a0 - a1 ≤ 4096 * (a2 - a3) := by omega
theorem oz_5a408f7934 {a0 a1 : Int} (h0 : 0 ≤ a1) : 6 * a0 ≤ 6 * a0 + (a1) := by omega
theorem m12_198 : Cond.methodLink "HomeSystemModel$Program" 636 ⟨"HomeSystemModel$Program", "checkStatement", "(I)V"⟩ ∈ AL := AL_12 (List.mem_of_getElem? (i := 198) rfl) rfl
theorem m12_201 : Cond.code ⟨"HomeSystemModel$Program", "checkStatement", "(I)V"⟩ prog_16_method_91_code 3 (Option.none : Option Jvm.ClassFile.FieldType) ∈ AL := AL_12 (List.mem_of_getElem? (i := 201) rfl) rfl
theorem ms_12_3 : Cond.selects "HomeSystemModel$Program" ⟨"HomeSystemModel$Program", "checkStatement", "(I)V"⟩ ⟨"HomeSystemModel$Program", "checkStatement", "(I)V"⟩ ∈ AL := AL_p (q := (⟨"HomeSystemModel$Program", "checkStatement", "(I)V"⟩, 69)) (by unfold lw_privs; exact List.mem_append_right _ (List.mem_append_right _ (List.mem_append_right _ (List.mem_append_right _ (List.mem_append_right _ (List.mem_append_right _ (List.mem_append_right _ (List.mem_append_right _ (List.mem_append_right _ (List.mem_append_right _ (List.mem_append_right _ (List.mem_append_left _ (List.mem_of_getElem? (i := 3) rfl)))))))))))))
theorem m12_200 : Cond.instanceMethod ⟨"HomeSystemModel$Program", "checkStatement", "(I)V"⟩ ∈ AL := AL_12 (List.mem_of_getElem? (i := 200) rfl) rfl
theorem m12_194 : Cond.methodLink "HomeSystemModel$Program" 639 ⟨"HomeSystemModel$Program", "statements", "(I)V"⟩ ∈ AL := AL_12 (List.mem_of_getElem? (i := 194) rfl) rfl
theorem m12_197 : Cond.code ⟨"HomeSystemModel$Program", "statements", "(I)V"⟩ prog_16_method_88_code 3 (Option.none : Option Jvm.ClassFile.FieldType) ∈ AL := AL_12 (List.mem_of_getElem? (i := 197) rfl) rfl
theorem ms_12_2 : Cond.selects "HomeSystemModel$Program" ⟨"HomeSystemModel$Program", "statements", "(I)V"⟩ ⟨"HomeSystemModel$Program", "statements", "(I)V"⟩ ∈ AL := AL_p (q := (⟨"HomeSystemModel$Program", "statements", "(I)V"⟩, 69)) (by unfold lw_privs; exact List.mem_append_right _ (List.mem_append_right _ (List.mem_append_right _ (List.mem_append_right _ (List.mem_append_right _ (List.mem_append_right _ (List.mem_append_right _ (List.mem_append_right _ (List.mem_append_right _ (List.mem_append_right _ (List.mem_append_right _ (List.mem_append_left _ (List.mem_of_getElem? (i := 2) rfl)))))))))))))
theorem m12_196 : Cond.instanceMethod ⟨"HomeSystemModel$Program", "statements", "(I)V"⟩ ∈ AL := AL_12 (List.mem_of_getElem? (i := 196) rfl) rfl
theorem m12_206 : Cond.methodLink "HomeSystemModel$Program" 642 ⟨"HomeSystemModel$Program", "leave", "(II)V"⟩ ∈ AL := AL_12 (List.mem_of_getElem? (i := 206) rfl) rfl
theorem m12_209 : Cond.code ⟨"HomeSystemModel$Program", "leave", "(II)V"⟩ prog_16_method_89_code 3 (Option.none : Option Jvm.ClassFile.FieldType) ∈ AL := AL_12 (List.mem_of_getElem? (i := 209) rfl) rfl
theorem ms_12_5 : Cond.selects "HomeSystemModel$Program" ⟨"HomeSystemModel$Program", "leave", "(II)V"⟩ ⟨"HomeSystemModel$Program", "leave", "(II)V"⟩ ∈ AL := AL_p (q := (⟨"HomeSystemModel$Program", "leave", "(II)V"⟩, 69)) (by unfold lw_privs; exact List.mem_append_right _ (List.mem_append_right _ (List.mem_append_right _ (List.mem_append_right _ (List.mem_append_right _ (List.mem_append_right _ (List.mem_append_right _ (List.mem_append_right _ (List.mem_append_right _ (List.mem_append_right _ (List.mem_append_right _ (List.mem_append_left _ (List.mem_of_getElem? (i := 5) rfl)))))))))))))
theorem m12_208 : Cond.instanceMethod ⟨"HomeSystemModel$Program", "leave", "(II)V"⟩ ∈ AL := AL_12 (List.mem_of_getElem? (i := 208) rfl) rfl
theorem m10_35 : Cond.fieldLink "HomeSystemModel$Program" 667 "HomeSystemModel$Program" "loops" "I" ∈ AL := AL_10 (List.mem_of_getElem? (i := 35) rfl) rfl
abbrev b_Mpg_checkStatement : ByteArray := prog_16_method_91_code
def y_Mpg_checkStatement : MethodName := ⟨"HomeSystemModel$Program", "checkStatement", "(I)V"⟩
theorem d_Mpg_checkStatement_0 : decode b_Mpg_checkStatement 0 = .ok (.aload_n 0, 1) := by decide +kernel
theorem d_Mpg_checkStatement_1 : decode b_Mpg_checkStatement 1 = .ok (.getfield 207, 3) := by decide +kernel
theorem d_Mpg_checkStatement_4 : decode b_Mpg_checkStatement 4 = .ok (.iload_n 1, 1) := by decide +kernel
theorem d_Mpg_checkStatement_5 : decode b_Mpg_checkStatement 5 = .ok (.baload, 1) := by decide +kernel
theorem d_Mpg_checkStatement_6 : decode b_Mpg_checkStatement 6 = .ok (.tableswitch 221 20 33 #[70, 78, 81, 94, 103, 147, 172, 197, 205, 221, 221, 221, 221, 213], 70) := by decide +kernel
theorem d_Mpg_checkStatement_76 : decode b_Mpg_checkStatement 76 = .ok (.aload_n 0, 1) := by decide +kernel
theorem d_Mpg_checkStatement_77 : decode b_Mpg_checkStatement 77 = .ok (.iload_n 1, 1) := by decide +kernel
theorem d_Mpg_checkStatement_78 : decode b_Mpg_checkStatement 78 = .ok (.invokevirtual 645, 3) := by decide +kernel
theorem d_Mpg_checkStatement_81 : decode b_Mpg_checkStatement 81 = .ok (.goto 193, 3) := by decide +kernel
theorem d_Mpg_checkStatement_84 : decode b_Mpg_checkStatement 84 = .ok (.goto 190, 3) := by decide +kernel
theorem d_Mpg_checkStatement_87 : decode b_Mpg_checkStatement 87 = .ok (.aload_n 0, 1) := by decide +kernel
theorem d_Mpg_checkStatement_88 : decode b_Mpg_checkStatement 88 = .ok (.aload_n 0, 1) := by decide +kernel
theorem d_Mpg_checkStatement_89 : decode b_Mpg_checkStatement 89 = .ok (.getfield 216, 3) := by decide +kernel
theorem d_Mpg_checkStatement_92 : decode b_Mpg_checkStatement 92 = .ok (.iload_n 1, 1) := by decide +kernel
theorem d_Mpg_checkStatement_93 : decode b_Mpg_checkStatement 93 = .ok (.iaload, 1) := by decide +kernel
theorem d_Mpg_checkStatement_94 : decode b_Mpg_checkStatement 94 = .ok (.invokevirtual 648, 3) := by decide +kernel
theorem d_Mpg_checkStatement_97 : decode b_Mpg_checkStatement 97 = .ok (.goto 177, 3) := by decide +kernel
theorem d_Mpg_checkStatement_100 : decode b_Mpg_checkStatement 100 = .ok (.aload_n 0, 1) := by decide +kernel
theorem d_Mpg_checkStatement_101 : decode b_Mpg_checkStatement 101 = .ok (.iload_n 1, 1) := by decide +kernel
theorem d_Mpg_checkStatement_102 : decode b_Mpg_checkStatement 102 = .ok (.iconst 0, 1) := by decide +kernel
theorem d_Mpg_checkStatement_103 : decode b_Mpg_checkStatement 103 = .ok (.invokevirtual 651, 3) := by decide +kernel
theorem d_Mpg_checkStatement_106 : decode b_Mpg_checkStatement 106 = .ok (.goto 168, 3) := by decide +kernel
theorem d_Mpg_checkStatement_109 : decode b_Mpg_checkStatement 109 = .ok (.aload_n 0, 1) := by decide +kernel
theorem d_Mpg_checkStatement_110 : decode b_Mpg_checkStatement 110 = .ok (.aload_n 0, 1) := by decide +kernel
theorem d_Mpg_checkStatement_111 : decode b_Mpg_checkStatement 111 = .ok (.getfield 216, 3) := by decide +kernel
theorem d_Mpg_checkStatement_114 : decode b_Mpg_checkStatement 114 = .ok (.iload_n 1, 1) := by decide +kernel
theorem d_Mpg_checkStatement_115 : decode b_Mpg_checkStatement 115 = .ok (.iaload, 1) := by decide +kernel
theorem d_Mpg_checkStatement_116 : decode b_Mpg_checkStatement 116 = .ok (.iconst 1, 1) := by decide +kernel
theorem d_Mpg_checkStatement_117 : decode b_Mpg_checkStatement 117 = .ok (.invokevirtual 577, 3) := by decide +kernel
theorem d_Mpg_checkStatement_120 : decode b_Mpg_checkStatement 120 = .ok (.pop, 1) := by decide +kernel
theorem d_Mpg_checkStatement_121 : decode b_Mpg_checkStatement 121 = .ok (.aload_n 0, 1) := by decide +kernel
theorem d_Mpg_checkStatement_122 : decode b_Mpg_checkStatement 122 = .ok (.aload_n 0, 1) := by decide +kernel
theorem d_Mpg_checkStatement_123 : decode b_Mpg_checkStatement 123 = .ok (.getfield 219, 3) := by decide +kernel
theorem d_Mpg_checkStatement_126 : decode b_Mpg_checkStatement 126 = .ok (.iload_n 1, 1) := by decide +kernel
theorem d_Mpg_checkStatement_127 : decode b_Mpg_checkStatement 127 = .ok (.iaload, 1) := by decide +kernel
theorem d_Mpg_checkStatement_128 : decode b_Mpg_checkStatement 128 = .ok (.invokevirtual 636, 3) := by decide +kernel
theorem d_Mpg_checkStatement_131 : decode b_Mpg_checkStatement 131 = .ok (.aload_n 0, 1) := by decide +kernel
theorem d_Mpg_checkStatement_132 : decode b_Mpg_checkStatement 132 = .ok (.getfield 222, 3) := by decide +kernel
theorem d_Mpg_checkStatement_135 : decode b_Mpg_checkStatement 135 = .ok (.iload_n 1, 1) := by decide +kernel
theorem d_Mpg_checkStatement_136 : decode b_Mpg_checkStatement 136 = .ok (.iaload, 1) := by decide +kernel
theorem d_Mpg_checkStatement_137 : decode b_Mpg_checkStatement 137 = .ok (.ifCond .lt 137, 3) := by decide +kernel
theorem d_Mpg_checkStatement_140 : decode b_Mpg_checkStatement 140 = .ok (.aload_n 0, 1) := by decide +kernel
theorem d_Mpg_checkStatement_141 : decode b_Mpg_checkStatement 141 = .ok (.aload_n 0, 1) := by decide +kernel
theorem d_Mpg_checkStatement_142 : decode b_Mpg_checkStatement 142 = .ok (.getfield 222, 3) := by decide +kernel
theorem d_Mpg_checkStatement_145 : decode b_Mpg_checkStatement 145 = .ok (.iload_n 1, 1) := by decide +kernel
theorem d_Mpg_checkStatement_146 : decode b_Mpg_checkStatement 146 = .ok (.iaload, 1) := by decide +kernel
theorem d_Mpg_checkStatement_147 : decode b_Mpg_checkStatement 147 = .ok (.invokevirtual 636, 3) := by decide +kernel
theorem d_Mpg_checkStatement_150 : decode b_Mpg_checkStatement 150 = .ok (.goto 124, 3) := by decide +kernel
theorem d_Mpg_checkStatement_153 : decode b_Mpg_checkStatement 153 = .ok (.aload_n 0, 1) := by decide +kernel
theorem d_Mpg_checkStatement_154 : decode b_Mpg_checkStatement 154 = .ok (.aload_n 0, 1) := by decide +kernel
theorem d_Mpg_checkStatement_155 : decode b_Mpg_checkStatement 155 = .ok (.getfield 216, 3) := by decide +kernel
theorem d_Mpg_checkStatement_158 : decode b_Mpg_checkStatement 158 = .ok (.iload_n 1, 1) := by decide +kernel
theorem d_Mpg_checkStatement_159 : decode b_Mpg_checkStatement 159 = .ok (.iaload, 1) := by decide +kernel
theorem d_Mpg_checkStatement_160 : decode b_Mpg_checkStatement 160 = .ok (.iconst 1, 1) := by decide +kernel
theorem d_Mpg_checkStatement_161 : decode b_Mpg_checkStatement 161 = .ok (.invokevirtual 577, 3) := by decide +kernel
theorem d_Mpg_checkStatement_164 : decode b_Mpg_checkStatement 164 = .ok (.pop, 1) := by decide +kernel
theorem d_Mpg_checkStatement_165 : decode b_Mpg_checkStatement 165 = .ok (.aload_n 0, 1) := by decide +kernel
theorem d_Mpg_checkStatement_166 : decode b_Mpg_checkStatement 166 = .ok (.aload_n 0, 1) := by decide +kernel
theorem d_Mpg_checkStatement_167 : decode b_Mpg_checkStatement 167 = .ok (.getfield 219, 3) := by decide +kernel
theorem d_Mpg_checkStatement_170 : decode b_Mpg_checkStatement 170 = .ok (.iload_n 1, 1) := by decide +kernel
theorem d_Mpg_checkStatement_171 : decode b_Mpg_checkStatement 171 = .ok (.iaload, 1) := by decide +kernel
theorem d_Mpg_checkStatement_172 : decode b_Mpg_checkStatement 172 = .ok (.invokevirtual 655, 3) := by decide +kernel
theorem d_Mpg_checkStatement_175 : decode b_Mpg_checkStatement 175 = .ok (.goto 99, 3) := by decide +kernel
theorem d_Mpg_checkStatement_178 : decode b_Mpg_checkStatement 178 = .ok (.aload_n 0, 1) := by decide +kernel
theorem d_Mpg_checkStatement_179 : decode b_Mpg_checkStatement 179 = .ok (.aload_n 0, 1) := by decide +kernel
theorem d_Mpg_checkStatement_180 : decode b_Mpg_checkStatement 180 = .ok (.getfield 219, 3) := by decide +kernel
theorem d_Mpg_checkStatement_183 : decode b_Mpg_checkStatement 183 = .ok (.iload_n 1, 1) := by decide +kernel
theorem d_Mpg_checkStatement_184 : decode b_Mpg_checkStatement 184 = .ok (.iaload, 1) := by decide +kernel
theorem d_Mpg_checkStatement_185 : decode b_Mpg_checkStatement 185 = .ok (.invokevirtual 655, 3) := by decide +kernel
theorem d_Mpg_checkStatement_188 : decode b_Mpg_checkStatement 188 = .ok (.aload_n 0, 1) := by decide +kernel
theorem d_Mpg_checkStatement_189 : decode b_Mpg_checkStatement 189 = .ok (.aload_n 0, 1) := by decide +kernel
theorem d_Mpg_checkStatement_190 : decode b_Mpg_checkStatement 190 = .ok (.getfield 216, 3) := by decide +kernel
theorem d_Mpg_checkStatement_193 : decode b_Mpg_checkStatement 193 = .ok (.iload_n 1, 1) := by decide +kernel
theorem d_Mpg_checkStatement_194 : decode b_Mpg_checkStatement 194 = .ok (.iaload, 1) := by decide +kernel
theorem d_Mpg_checkStatement_195 : decode b_Mpg_checkStatement 195 = .ok (.iconst 1, 1) := by decide +kernel
theorem d_Mpg_checkStatement_196 : decode b_Mpg_checkStatement 196 = .ok (.invokevirtual 577, 3) := by decide +kernel
theorem d_Mpg_checkStatement_199 : decode b_Mpg_checkStatement 199 = .ok (.pop, 1) := by decide +kernel
theorem d_Mpg_checkStatement_200 : decode b_Mpg_checkStatement 200 = .ok (.goto 74, 3) := by decide +kernel
theorem d_Mpg_checkStatement_203 : decode b_Mpg_checkStatement 203 = .ok (.aload_n 0, 1) := by decide +kernel
theorem d_Mpg_checkStatement_204 : decode b_Mpg_checkStatement 204 = .ok (.iload_n 1, 1) := by decide +kernel
theorem d_Mpg_checkStatement_205 : decode b_Mpg_checkStatement 205 = .ok (.invokevirtual 658, 3) := by decide +kernel
theorem d_Mpg_checkStatement_208 : decode b_Mpg_checkStatement 208 = .ok (.goto 66, 3) := by decide +kernel
theorem d_Mpg_checkStatement_211 : decode b_Mpg_checkStatement 211 = .ok (.aload_n 0, 1) := by decide +kernel
theorem d_Mpg_checkStatement_212 : decode b_Mpg_checkStatement 212 = .ok (.iload_n 1, 1) := by decide +kernel
theorem d_Mpg_checkStatement_213 : decode b_Mpg_checkStatement 213 = .ok (.invokevirtual 661, 3) := by decide +kernel
theorem d_Mpg_checkStatement_216 : decode b_Mpg_checkStatement 216 = .ok (.goto 58, 3) := by decide +kernel
theorem d_Mpg_checkStatement_219 : decode b_Mpg_checkStatement 219 = .ok (.aload_n 0, 1) := by decide +kernel
theorem d_Mpg_checkStatement_220 : decode b_Mpg_checkStatement 220 = .ok (.iload_n 1, 1) := by decide +kernel
theorem d_Mpg_checkStatement_221 : decode b_Mpg_checkStatement 221 = .ok (.invokevirtual 664, 3) := by decide +kernel
theorem d_Mpg_checkStatement_224 : decode b_Mpg_checkStatement 224 = .ok (.goto 50, 3) := by decide +kernel
theorem d_Mpg_checkStatement_227 : decode b_Mpg_checkStatement 227 = .ok (.aload_n 0, 1) := by decide +kernel
theorem d_Mpg_checkStatement_228 : decode b_Mpg_checkStatement 228 = .ok (.getfield 667, 3) := by decide +kernel
theorem d_Mpg_checkStatement_231 : decode b_Mpg_checkStatement 231 = .ok (.ifCond .gt 21, 3) := by decide +kernel
theorem d_Mpg_checkStatement_234 : decode b_Mpg_checkStatement 234 = .ok (.aload_n 0, 1) := by decide +kernel
theorem d_Mpg_checkStatement_235 : decode b_Mpg_checkStatement 235 = .ok (.getfield 207, 3) := by decide +kernel
theorem d_Mpg_checkStatement_238 : decode b_Mpg_checkStatement 238 = .ok (.iload_n 1, 1) := by decide +kernel
theorem d_Mpg_checkStatement_239 : decode b_Mpg_checkStatement 239 = .ok (.baload, 1) := by decide +kernel
theorem d_Mpg_checkStatement_240 : decode b_Mpg_checkStatement 240 = .ok (.bipush 31, 2) := by decide +kernel
theorem d_Mpg_checkStatement_242 : decode b_Mpg_checkStatement 242 = .ok (.if_icmp .ne 14, 3) := by decide +kernel
theorem d_Mpg_checkStatement_245 : decode b_Mpg_checkStatement 245 = .ok (.aload_n 0, 1) := by decide +kernel
theorem d_Mpg_checkStatement_246 : decode b_Mpg_checkStatement 246 = .ok (.getfield 670, 3) := by decide +kernel
theorem d_Mpg_checkStatement_249 : decode b_Mpg_checkStatement 249 = .ok (.ifCond .le 7, 3) := by decide +kernel
theorem d_Mpg_checkStatement_252 : decode b_Mpg_checkStatement 252 = .ok (.iconst 1, 1) := by decide +kernel
theorem d_Mpg_checkStatement_253 : decode b_Mpg_checkStatement 253 = .ok (.goto 4, 3) := by decide +kernel
theorem d_Mpg_checkStatement_256 : decode b_Mpg_checkStatement 256 = .ok (.iconst 0, 1) := by decide +kernel
theorem d_Mpg_checkStatement_257 : decode b_Mpg_checkStatement 257 = .ok (.istore_n 2, 1) := by decide +kernel
theorem d_Mpg_checkStatement_258 : decode b_Mpg_checkStatement 258 = .ok (.iload_n 2, 1) := by decide +kernel
theorem d_Mpg_checkStatement_259 : decode b_Mpg_checkStatement 259 = .ok (.ifCond .ne 15, 3) := by decide +kernel
theorem d_Mpg_checkStatement_262 : decode b_Mpg_checkStatement 262 = .ok (.aload_n 0, 1) := by decide +kernel
theorem d_Mpg_checkStatement_263 : decode b_Mpg_checkStatement 263 = .ok (.bipush 9, 2) := by decide +kernel
theorem d_Mpg_checkStatement_265 : decode b_Mpg_checkStatement 265 = .ok (.aload_n 0, 1) := by decide +kernel
theorem d_Mpg_checkStatement_266 : decode b_Mpg_checkStatement 266 = .ok (.getfield 210, 3) := by decide +kernel
theorem d_Mpg_checkStatement_269 : decode b_Mpg_checkStatement 269 = .ok (.iload_n 1, 1) := by decide +kernel
theorem d_Mpg_checkStatement_270 : decode b_Mpg_checkStatement 270 = .ok (.iaload, 1) := by decide +kernel
theorem d_Mpg_checkStatement_271 : decode b_Mpg_checkStatement 271 = .ok (.invokevirtual 565, 3) := by decide +kernel
theorem d_Mpg_checkStatement_274 : decode b_Mpg_checkStatement 274 = .ok (.return_, 1) := by decide +kernel
theorem q_Mpg_checkStatement : px_y y_Mpg_checkStatement 1 := by unfold px_y; decide +kernel
def StC (l : Launch) (D : va_G) (cs : Nat → ClassId) (d : Nat) : Prop := ∀ (ma0 : Nat → Nat → Int32) (ys : Int) (nf : Int) (tx : Int) (lo : Int) (hi : Int) (w : Int) (h : Nat) (r : Nat → Nat) (g : Nat → Nat → Option Nat) (tf : Nat → Int32) (ta : Nat → Nat → Int32) (pf : Nat → Int32) (na : Nat → Nat → Int32) (wa : Nat → Nat → Int32) (ef : Nat → Int32) (ea : Nat → Nat → Int32) (xf : Nat → Int32) (xa : Nat → Nat → Int32) (ma : Nat → Nat → Int32) (cf : Nat → Int32) (ca : Nat → Nat → Int32) (p0 : Int32)  (g0 : 0 ≤ lo) (g1 : hi ≤ (pf 13).toInt) (g2 : (pf 13).toInt ≤ 2100) (g3 : (tf 6).toInt ≤ 2049) (g4 : 0 ≤ (cf 33).toInt) (g5 : 0 ≤ w) (g6 : 6 * (cf 33).toInt + w ≤ 6540) (g7 : 0 ≤ (cf 48).toInt) (g8 : 6 * (cf 48).toInt + w ≤ 6540) (g9 : (cf 38).toInt = nf) (g10 : 0 ≤ nf) (g11 : 0 ≤ (cf 37).toInt) (g12 : 0 ≤ (cf 54).toInt) (g13 : (cf 54).toInt ≤ 4096 * (cf 48).toInt) (g14 : 0 ≤ (cf 42).toInt) (g15 : (cf 42).toInt ≤ 4 + 4096 * (cf 48).toInt) (g16 : 0 ≤ (cf 44).toInt) (g17 : 0 ≤ (cf 45).toInt) (g18 : ys ≤ (cf 48).toInt ∨ tx = 1) (g19 : 0 ≤ (cf 46).toInt) (g20 : (cf 46).toInt ≤ 1) (g21 : 0 ≤ (cf 47).toInt) (g22 : (cf 47).toInt ≤ 1) (g23 : (cf 44).toInt + (d : Int) ≤ 400) (g24 : (cf 45).toInt + (d : Int) ≤ 400) (g25 : 0 ≤ (cf 43).toInt) (g26 : (cf 43).toInt < 2100) (g27 : tx = 0) (htk : TkI tf ta) (hfs : FsI (tf 6).toInt (pf 13).toInt na) (hwr : WrV cf (tf 6).toInt) (hkt : KnT (tf 6).toInt ca (cf 33).toInt) (hft : FnT (tf 6).toInt na ca (cf 38).toInt) (hks : KnS ca (cf 33).toInt (cf 48).toInt ys) (hfp : FnP na ca nf) (hsr : SyR ca ys (cf 48).toInt (cf 54).toInt tx) (han : Ann na ma0 ma) (htx : txo (cf 43).toInt = tx) (hsc : ScV ta (tf 6).toInt na ma0 d lo hi w p0), MetV l y_Mpg_checkStatement b_Mpg_checkStatement 3 D cs (6 * d + 26) (260 * d + 900) (0) (0) [.ref h, .int p0] [wdP cs h r g tf ta pf na ma wa cf ca ef ea xf xa] (oX (fun A U H => (oP A g U H)) [wdP cs h r g tf ta pf na ma wa cf ca ef ea xf xa]) (fun ps => ∃ (ma' : Nat → Nat → Int32) (cf' : Nat → Int32) (ca' : Nat → Nat → Int32), (ps = [wdP cs h r g tf ta pf na ma' wa cf' ca' ef ea xf xa]) ∧ ((cf' 30).toInt = 0 → (cf 30).toInt = 0) ∧ (WrV cf' (tf 6).toInt) ∧ ((cf' 37).toInt = (cf 37).toInt) ∧ ((cf' 38).toInt = (cf 38).toInt) ∧ ((cf' 43).toInt = (cf 43).toInt) ∧ ((cf' 44).toInt = (cf 44).toInt) ∧ ((cf' 45).toInt = (cf 45).toInt) ∧ ((cf' 46).toInt = (cf 46).toInt) ∧ ((cf' 47).toInt = (cf 47).toInt) ∧ ((cf' 41).toInt = (cf 41).toInt) ∧ ((cf' 55).toInt = (cf 55).toInt) ∧ ((cf' 59).toInt = (cf 59).toInt) ∧ ((cf 33).toInt ≤ (cf' 33).toInt) ∧ (6 * (cf' 33).toInt ≤ 6 * (cf 33).toInt + (w)) ∧ ((cf 48).toInt ≤ (cf' 48).toInt) ∧ (6 * (cf' 48).toInt ≤ 6 * (cf 48).toInt + (w)) ∧ ((cf 54).toInt ≤ (cf' 54).toInt) ∧ ((cf 42).toInt ≤ (cf' 42).toInt) ∧ ((cf' 54).toInt - (cf 54).toInt ≤ 4 * ((cf' 42).toInt - (cf 42).toInt)) ∧ ((cf' 54).toInt - (cf 54).toInt ≤ 4096 * ((cf' 48).toInt - (cf 48).toInt)) ∧ ((cf' 42).toInt - (cf 42).toInt ≤ 4096 * ((cf' 48).toInt - (cf 48).toInt)) ∧ (KnT (tf 6).toInt ca' (cf' 33).toInt) ∧ (KnS ca' (cf' 33).toInt (cf' 48).toInt ys) ∧ (CaG ca ca' (cf 33).toInt (cf 48).toInt) ∧ (SyR ca' ys (cf' 48).toInt (cf' 54).toInt tx) ∧ (Ann na ma0 ma') ∧ (FrC lo hi ma ma') ∧ (ZTe cf' ta ca' na ma0 (cf' 48).toInt ys nf ma' lo hi p0 (tgv (cf 44).toInt (cf 45).toInt)) ∧ (RL_mp_checkStatement d tf ta na p0 ma cf ca ma' cf' ca'))
abbrev b_Mpg_statements : ByteArray := prog_16_method_88_code
def y_Mpg_statements : MethodName := ⟨"HomeSystemModel$Program", "statements", "(I)V"⟩
theorem d_Mpg_statements_0 : decode b_Mpg_statements 0 = .ok (.iload_n 1, 1) := by decide +kernel
theorem d_Mpg_statements_1 : decode b_Mpg_statements 1 = .ok (.istore_n 2, 1) := by decide +kernel
theorem d_Mpg_statements_2 : decode b_Mpg_statements 2 = .ok (.iload_n 2, 1) := by decide +kernel
theorem d_Mpg_statements_3 : decode b_Mpg_statements 3 = .ok (.ifCond .lt 18, 3) := by decide +kernel
theorem d_Mpg_statements_6 : decode b_Mpg_statements 6 = .ok (.aload_n 0, 1) := by decide +kernel
theorem d_Mpg_statements_7 : decode b_Mpg_statements 7 = .ok (.iload_n 2, 1) := by decide +kernel
theorem d_Mpg_statements_8 : decode b_Mpg_statements 8 = .ok (.invokevirtual 636, 3) := by decide +kernel
theorem d_Mpg_statements_11 : decode b_Mpg_statements 11 = .ok (.aload_n 0, 1) := by decide +kernel
theorem d_Mpg_statements_12 : decode b_Mpg_statements 12 = .ok (.getfield 228, 3) := by decide +kernel
theorem d_Mpg_statements_15 : decode b_Mpg_statements 15 = .ok (.iload_n 2, 1) := by decide +kernel
theorem d_Mpg_statements_16 : decode b_Mpg_statements 16 = .ok (.iaload, 1) := by decide +kernel
theorem d_Mpg_statements_17 : decode b_Mpg_statements 17 = .ok (.istore_n 2, 1) := by decide +kernel
theorem d_Mpg_statements_18 : decode b_Mpg_statements 18 = .ok (.goto (-16), 3) := by decide +kernel
theorem d_Mpg_statements_21 : decode b_Mpg_statements 21 = .ok (.return_, 1) := by decide +kernel
theorem q_Mpg_statements : px_y y_Mpg_statements 1 := by unfold px_y; decide +kernel
set_option maxHeartbeats 4000000 in
set_option maxRecDepth 100000 in
theorem c_mp_statements (l : Launch) (D : va_G) (cs : Nat → ClassId) (ma0 : Nat → Nat → Int32) (ys : Int) (nf : Int) (tx : Int) (d : Nat) (lo : Int) (hi : Int) (w : Int) (h : Nat) (r : Nat → Nat) (g : Nat → Nat → Option Nat) (tf : Nat → Int32) (ta : Nat → Nat → Int32) (pf : Nat → Int32) (na : Nat → Nat → Int32) (wa : Nat → Nat → Int32) (ef : Nat → Int32) (ea : Nat → Nat → Int32) (xf : Nat → Int32) (xa : Nat → Nat → Int32) (ma : Nat → Nat → Int32) (cf : Nat → Int32) (ca : Nat → Nat → Int32) (p0 : Int32)  (g0 : 0 ≤ lo) (g1 : hi ≤ (pf 13).toInt) (g2 : (pf 13).toInt ≤ 2100) (g3 : (tf 6).toInt ≤ 2049) (g4 : 0 ≤ (cf 33).toInt) (g5 : 0 ≤ w) (g6 : 6 * (cf 33).toInt + w ≤ 6540) (g7 : 0 ≤ (cf 48).toInt) (g8 : 6 * (cf 48).toInt + w ≤ 6540) (g9 : (cf 38).toInt = nf) (g10 : 0 ≤ nf) (g11 : 0 ≤ (cf 37).toInt) (g12 : 0 ≤ (cf 54).toInt) (g13 : (cf 54).toInt ≤ 4096 * (cf 48).toInt) (g14 : 0 ≤ (cf 42).toInt) (g15 : (cf 42).toInt ≤ 4 + 4096 * (cf 48).toInt) (g16 : 0 ≤ (cf 44).toInt) (g17 : 0 ≤ (cf 45).toInt) (g18 : ys ≤ (cf 48).toInt ∨ tx = 1) (g19 : 0 ≤ (cf 46).toInt) (g20 : (cf 46).toInt ≤ 1) (g21 : 0 ≤ (cf 47).toInt) (g22 : (cf 47).toInt ≤ 1) (g23 : (cf 44).toInt + (d : Int) ≤ 400) (g24 : (cf 45).toInt + (d : Int) ≤ 400) (g25 : 0 ≤ (cf 43).toInt) (g26 : (cf 43).toInt < 2100) (g27 : tx = 0) (g28 : lo ≤ hi) (htk : TkI tf ta) (hfs : FsI (tf 6).toInt (pf 13).toInt na) (hwr : WrV cf (tf 6).toInt) (hkt : KnT (tf 6).toInt ca (cf 33).toInt) (hft : FnT (tf 6).toInt na ca (cf 38).toInt) (hks : KnS ca (cf 33).toInt (cf 48).toInt ys) (hfp : FnP na ca nf) (hsr : SyR ca ys (cf 48).toInt (cf 54).toInt tx) (han : Ann na ma0 ma) (htx : txo (cf 43).toInt = tx) (hrs : RvS ta (tf 6).toInt na ma0 d lo hi w p0) (hLS : StC l D cs d) : MetV l y_Mpg_statements b_Mpg_statements 3 D cs (6 * d + 27) (260 * d + 940) (0) (0) [.ref h, .int p0] [wdP cs h r g tf ta pf na ma wa cf ca ef ea xf xa] (oX (fun A U H => (oP A g U H)) [wdP cs h r g tf ta pf na ma wa cf ca ef ea xf xa]) (fun ps => ∃ (ma' : Nat → Nat → Int32) (cf' : Nat → Int32) (ca' : Nat → Nat → Int32), (ps = [wdP cs h r g tf ta pf na ma' wa cf' ca' ef ea xf xa]) ∧ ((cf' 30).toInt = 0 → (cf 30).toInt = 0) ∧ (WrV cf' (tf 6).toInt) ∧ ((cf' 37).toInt = (cf 37).toInt) ∧ ((cf' 38).toInt = (cf 38).toInt) ∧ ((cf' 43).toInt = (cf 43).toInt) ∧ ((cf' 44).toInt = (cf 44).toInt) ∧ ((cf' 45).toInt = (cf 45).toInt) ∧ ((cf' 46).toInt = (cf 46).toInt) ∧ ((cf' 47).toInt = (cf 47).toInt) ∧ ((cf' 41).toInt = (cf 41).toInt) ∧ ((cf' 55).toInt = (cf 55).toInt) ∧ ((cf' 59).toInt = (cf 59).toInt) ∧ ((cf 33).toInt ≤ (cf' 33).toInt) ∧ (6 * (cf' 33).toInt ≤ 6 * (cf 33).toInt + (w)) ∧ ((cf 48).toInt ≤ (cf' 48).toInt) ∧ (6 * (cf' 48).toInt ≤ 6 * (cf 48).toInt + (w)) ∧ ((cf 54).toInt ≤ (cf' 54).toInt) ∧ ((cf 42).toInt ≤ (cf' 42).toInt) ∧ ((cf' 54).toInt - (cf 54).toInt ≤ 4 * ((cf' 42).toInt - (cf 42).toInt)) ∧ ((cf' 54).toInt - (cf 54).toInt ≤ 4096 * ((cf' 48).toInt - (cf 48).toInt)) ∧ ((cf' 42).toInt - (cf 42).toInt ≤ 4096 * ((cf' 48).toInt - (cf 48).toInt)) ∧ (KnT (tf 6).toInt ca' (cf' 33).toInt) ∧ (KnS ca' (cf' 33).toInt (cf' 48).toInt ys) ∧ (CaG ca ca' (cf 33).toInt (cf 48).toInt) ∧ (SyR ca' ys (cf' 48).toInt (cf' 54).toInt tx) ∧ (Ann na ma0 ma') ∧ (FrC lo hi ma ma') ∧ (ZTw cf' ta ca' na ma0 (cf' 48).toInt ys nf ma' lo hi p0 (tgv (cf 44).toInt (cf 45).toInt)) ∧ (R_mp_statements (RL_mp_checkStatement d) tf ta na p0 ma cf ca ma' cf' ca')) := by
  refine px_enter (by decide) (Nat.le_of_ble_eq_true rfl) ?_
  intro p e s m below meth c A ls hAe S hr hlk hnm hA hT hX hw hl
  have hl : lv_has ls 3 [(0, .ref h), (1, .int p0)] := hl
  have lp0 := Int32.le_toInt p0
  have up0 := Int32.toInt_lt p0
  have hX : (fun A U H => (oP A g U H)) A s s.heap := by rw [hAe]; exact hX
  have hP := hX
  have hZ := hP.1
  have hF0 := hP.2.1
  have hfc : FrC lo hi ma ma := FrC.rf
  have hwr0 := hwr.1
  have hk11 := hkt.1
  have hf11 := hft.1
  have hcg : CaG ca ca (cf 33).toInt (cf 48).toInt := CaG.rf
  have J2 : ∀ (n_2 : Nat) (ma_2 : Nat → Nat → Int32) (cf_2 : Nat → Int32) (ca_2 : Nat → Nat → Int32) (mid_2 : Int) (wr_2 : Int) (x2_2 : Int32) (H : Heap) (locs : List Loc) (ls : Array Slot), ((cf_2 30).toInt = 0 → (cf 30).toInt = 0) → (WrV cf_2 (tf 6).toInt) → ((cf_2 37).toInt = (cf 37).toInt) → ((cf_2 38).toInt = (cf 38).toInt) → ((cf_2 43).toInt = (cf 43).toInt) → ((cf_2 44).toInt = (cf 44).toInt) → ((cf_2 45).toInt = (cf 45).toInt) → ((cf_2 46).toInt = (cf 46).toInt) → ((cf_2 47).toInt = (cf 47).toInt) → ((cf_2 41).toInt = (cf 41).toInt) → ((cf_2 55).toInt = (cf 55).toInt) → ((cf_2 59).toInt = (cf 59).toInt) → ((cf 33).toInt ≤ (cf_2 33).toInt) → (6 * (cf_2 33).toInt ≤ 6 * (cf 33).toInt + (w - wr_2)) → ((cf 48).toInt ≤ (cf_2 48).toInt) → (6 * (cf_2 48).toInt ≤ 6 * (cf 48).toInt + (w - wr_2)) → ((cf 54).toInt ≤ (cf_2 54).toInt) → ((cf 42).toInt ≤ (cf_2 42).toInt) → ((cf_2 54).toInt - (cf 54).toInt ≤ 4 * ((cf_2 42).toInt - (cf 42).toInt)) → ((cf_2 54).toInt - (cf 54).toInt ≤ 4096 * ((cf_2 48).toInt - (cf 48).toInt)) → ((cf_2 42).toInt - (cf 42).toInt ≤ 4096 * ((cf_2 48).toInt - (cf 48).toInt)) → (KnT (tf 6).toInt ca_2 (cf_2 33).toInt) → (KnS ca_2 (cf_2 33).toInt (cf_2 48).toInt ys) → (CaG ca ca_2 (cf 33).toInt (cf 48).toInt) → (SyR ca_2 ys (cf_2 48).toInt (cf_2 54).toInt tx) → (Ann na ma0 ma_2) → (FrC lo hi ma ma_2) → (lo ≤ mid_2) → (mid_2 ≤ hi) → (0 ≤ wr_2) → (wr_2 ≤ w) → (RvS ta (tf 6).toInt na ma0 d mid_2 hi wr_2 x2_2) → (ZTs cf_2 ta ca_2 na ma0 (cf_2 48).toInt ys nf ma_2 lo mid_2 p0 x2_2 (tgv (cf 44).toInt (cf 45).toInt)) → (K_mp_statements_2 (RL_mp_checkStatement d) tf ta na p0 ma cf ca ma_2 cf_2 ca_2 x2_2) → hi - mid_2 < (n_2 : Int) → pw D A s.heap H locs [wdP cs h r g tf ta pf na ma_2 wa cf_2 ca_2 ef ea xf xa] → lv_has ls 3 [(0, .ref h), (1, .int p0), (2, .int x2_2)] → W p l e { frames := (6 * d + 27), cells := 0, slots := 0, locals := (260 * d + 940) } s m [.ref h, .int p0].toArray below meth c H locs 0 0 (MQ below (va_Qv (fun ps => ∃ (ma' : Nat → Nat → Int32) (cf' : Nat → Int32) (ca' : Nat → Nat → Int32), (ps = [wdP cs h r g tf ta pf na ma' wa cf' ca' ef ea xf xa]) ∧ ((cf' 30).toInt = 0 → (cf 30).toInt = 0) ∧ (WrV cf' (tf 6).toInt) ∧ ((cf' 37).toInt = (cf 37).toInt) ∧ ((cf' 38).toInt = (cf 38).toInt) ∧ ((cf' 43).toInt = (cf 43).toInt) ∧ ((cf' 44).toInt = (cf 44).toInt) ∧ ((cf' 45).toInt = (cf 45).toInt) ∧ ((cf' 46).toInt = (cf 46).toInt) ∧ ((cf' 47).toInt = (cf 47).toInt) ∧ ((cf' 41).toInt = (cf 41).toInt) ∧ ((cf' 55).toInt = (cf 55).toInt) ∧ ((cf' 59).toInt = (cf 59).toInt) ∧ ((cf 33).toInt ≤ (cf' 33).toInt) ∧ (6 * (cf' 33).toInt ≤ 6 * (cf 33).toInt + (w)) ∧ ((cf 48).toInt ≤ (cf' 48).toInt) ∧ (6 * (cf' 48).toInt ≤ 6 * (cf 48).toInt + (w)) ∧ ((cf 54).toInt ≤ (cf' 54).toInt) ∧ ((cf 42).toInt ≤ (cf' 42).toInt) ∧ ((cf' 54).toInt - (cf 54).toInt ≤ 4 * ((cf' 42).toInt - (cf 42).toInt)) ∧ ((cf' 54).toInt - (cf 54).toInt ≤ 4096 * ((cf' 48).toInt - (cf 48).toInt)) ∧ ((cf' 42).toInt - (cf 42).toInt ≤ 4096 * ((cf' 48).toInt - (cf 48).toInt)) ∧ (KnT (tf 6).toInt ca' (cf' 33).toInt) ∧ (KnS ca' (cf' 33).toInt (cf' 48).toInt ys) ∧ (CaG ca ca' (cf 33).toInt (cf 48).toInt) ∧ (SyR ca' ys (cf' 48).toInt (cf' 54).toInt tx) ∧ (Ann na ma0 ma') ∧ (FrC lo hi ma ma') ∧ (ZTw cf' ta ca' na ma0 (cf' 48).toInt ys nf ma' lo hi p0 (tgv (cf 44).toInt (cf 45).toInt)) ∧ (R_mp_statements (RL_mp_checkStatement d) tf ta na p0 ma cf ca ma' cf' ca')) (pc_B D (va_A ([wdP cs h r g tf ta pf na ma wa cf ca ef ea xf xa] : List va_W).flatten s.heap.size)) (va_A ([wdP cs h r g tf ta pf na ma wa cf ca ef ea xf xa] : List va_W).flatten s.heap.size)) [.ref h, .int p0].toArray s 0 0 A) (F0 m 2 ls []) := by
    intro  n_2
    induction n_2 with
    | zero =>
      intro ma_2 cf_2 ca_2 mid_2 wr_2 x2_2 H locs ls k2_0 k2_1 k2_2 k2_3 k2_4 k2_5 k2_6 k2_7 k2_8 k2_9 k2_10 k2_11 k2_12 k2_13 k2_14 k2_15 k2_16 k2_17 k2_18 k2_19 k2_20 k2_21 k2_22 k2_23 k2_24 k2_25 k2_26 k2_27 k2_28 k2_29 k2_30 k2_31 k2_32 k2_33 hm hw hl
      have lx2_2 := Int32.le_toInt x2_2
      have ux2_2 := Int32.toInt_lt x2_2
      have hwr := k2_1
      have hw0_k2_1 := hwr.1
      have hkt := k2_21
      have hk11_k2_21 := hkt.1
      have hks := k2_22
      have hcg := k2_23
      have hft := hft.cg k2_23
      have hfp := hfp.cg k2_23
      have hsr := k2_24
      have han := k2_25
      have hfc := k2_26
      have hrs := k2_31
      have hzts := k2_32
      exact absurd hm (by omega)
    | succ n_2 ih2 =>
      intro ma_2 cf_2 ca_2 mid_2 wr_2 x2_2 H locs ls k2_0 k2_1 k2_2 k2_3 k2_4 k2_5 k2_6 k2_7 k2_8 k2_9 k2_10 k2_11 k2_12 k2_13 k2_14 k2_15 k2_16 k2_17 k2_18 k2_19 k2_20 k2_21 k2_22 k2_23 k2_24 k2_25 k2_26 k2_27 k2_28 k2_29 k2_30 k2_31 k2_32 k2_33 hm hw hl
      have lx2_2 := Int32.le_toInt x2_2
      have ux2_2 := Int32.toInt_lt x2_2
      have hwr := k2_1
      have hw0_k2_1 := hwr.1
      have hkt := k2_21
      have hk11_k2_21 := hkt.1
      have hks := k2_22
      have hcg := k2_23
      have hft := hft.cg k2_23
      have hfp := hfp.cg k2_23
      have hsr := k2_24
      have han := k2_25
      have hfc := k2_26
      have hrs := k2_31
      have hzts := k2_32
      refine lv_iload_n S.x S.b d_Mpg_statements_2 rfl (lv_at hl 2 rfl) ?_
      refine lv_if_lt (tgt := 21) S.x S.b d_Mpg_statements_3 (by decide) (fun c1 => ?_) (fun c1 => ?_)
      · have nc1 : x2_2.toInt < (0 : Int) := (i_lt (x := x2_2) (y := 0)).mp c1
        exact px_vret S hr hlk hAe hw (Nat.le_of_ble_eq_true rfl) (Nat.le_of_ble_eq_true rfl) (⟨ma_2, cf_2, ca_2, rfl, (show (cf_2 30).toInt = 0 → (cf 30).toInt = 0 from by first | exact k2_0 | omega), (show WrV cf_2 (tf 6).toInt from hwr), (show (cf_2 37).toInt = (cf 37).toInt from by first | exact k2_2 | omega), (show (cf_2 38).toInt = (cf 38).toInt from by first | exact k2_3 | omega), (show (cf_2 43).toInt = (cf 43).toInt from by first | exact k2_4 | omega), (show (cf_2 44).toInt = (cf 44).toInt from by first | exact k2_5 | omega), (show (cf_2 45).toInt = (cf 45).toInt from by first | exact k2_6 | omega), (show (cf_2 46).toInt = (cf 46).toInt from by first | exact k2_7 | omega), (show (cf_2 47).toInt = (cf 47).toInt from by first | exact k2_8 | omega), (show (cf_2 41).toInt = (cf 41).toInt from by first | exact k2_9 | omega), (show (cf_2 55).toInt = (cf 55).toInt from by first | exact k2_10 | omega), (show (cf_2 59).toInt = (cf 59).toInt from by first | exact k2_11 | omega), (show (cf 33).toInt ≤ (cf_2 33).toInt from by first | exact k2_12 | omega), (show 6 * (cf_2 33).toInt ≤ 6 * (cf 33).toInt + (w) from by first | exact oz_45803030ed k2_13 k2_29 | omega), (show (cf 48).toInt ≤ (cf_2 48).toInt from by first | exact k2_14 | omega), (show 6 * (cf_2 48).toInt ≤ 6 * (cf 48).toInt + (w) from by first | exact oz_45803030ed k2_15 k2_29 | omega), (show (cf 54).toInt ≤ (cf_2 54).toInt from by first | exact k2_16 | omega), (show (cf 42).toInt ≤ (cf_2 42).toInt from by first | exact k2_17 | omega), (show (cf_2 54).toInt - (cf 54).toInt ≤ 4 * ((cf_2 42).toInt - (cf 42).toInt) from by first | exact k2_18 | omega), (show (cf_2 54).toInt - (cf 54).toInt ≤ 4096 * ((cf_2 48).toInt - (cf 48).toInt) from by first | exact k2_19 | omega), (show (cf_2 42).toInt - (cf 42).toInt ≤ 4096 * ((cf_2 48).toInt - (cf 48).toInt) from by first | exact k2_20 | omega), (show KnT (tf 6).toInt ca_2 (cf_2 33).toInt from (KnT.eq hkt (by omega))), (show KnS ca_2 (cf_2 33).toInt (cf_2 48).toInt ys from (KnS.eq hks (by omega) (by omega))), (show CaG ca ca_2 (cf 33).toInt (cf 48).toInt from (hcg.le (by omega) (by omega))), (show SyR ca_2 ys (cf_2 48).toInt (cf_2 54).toInt tx from (SyR.eq hsr (by omega) (by omega))), (show Ann na ma0 ma_2 from han), (show FrC lo hi ma ma_2 from hfc), (show ZTw cf_2 ta ca_2 na ma0 (cf_2 48).toInt ys nf ma_2 lo hi p0 (tgv (cf 44).toInt (cf 45).toInt) from (ZTs.w hzts (by omega) (fun q => by omega) (by omega) (by omega) (by omega) rfl)), (show R_mp_statements (RL_mp_checkStatement d) tf ta na p0 ma cf ca ma_2 cf_2 ca_2 from (k2_33 _ _ _ 1 (Or.inr (Or.inl ⟨rfl, x2_2, rfl, rfl, rfl, rfl, rfl, Or.inl ⟨nc1, rfl, rfl, rfl⟩⟩))))⟩) d_Mpg_statements_21
      · have nc1 : ¬ x2_2.toInt < (0 : Int) := mt (i_lt (x := x2_2) (y := 0)).mpr c1
        refine lv_aload_n S.x S.b d_Mpg_statements_6 rfl (lv_at hl 0 rfl) ?_
        obtain ⟨md3, wv4, hm1_md3, hm2_md3, hm3_md3, hsc_x2_2, hx3_md3, hrs2⟩ := RvE.step hrs (by omega); have hwp2 := RvE.wp hrs2; have hsr_x2_2 := ScV.rng hsc_x2_2
        refine lv_iload_n S.x S.b d_Mpg_statements_7 rfl (lv_at hl 2 rfl) ?_
        refine px_callv (pr := []) (px_runV (As := [.int x2_2]) (rest := []) S (hLS ma0 ys nf tx mid_2 md3 wv4 h r g tf ta pf na wa ef ea xf xa ma_2 cf_2 ca_2 x2_2 (show 0 ≤ mid_2 from by first | exact oz_16d7fa9f32 k2_27 g0 | omega) (show md3 ≤ (pf 13).toInt from by first | exact oz_bbb5b20c1a g1 hm2_md3 | omega) (show (pf 13).toInt ≤ 2100 from by first | exact g2 | omega) (show (tf 6).toInt ≤ 2049 from by first | exact g3 | omega) (show 0 ≤ (cf_2 33).toInt from by first | exact oz_16d7fa9f32 k2_12 g4 | omega) (show 0 ≤ wv4 from by first | exact hm3_md3 | omega) (show 6 * (cf_2 33).toInt + wv4 ≤ 6540 from by omega) (show 0 ≤ (cf_2 48).toInt from by first | exact oz_6a9f12b40a k2_20 g14 g15 k2_17 | omega) (show 6 * (cf_2 48).toInt + wv4 ≤ 6540 from by omega) (show (cf_2 38).toInt = nf from by first | exact oz_1687f4cc65 g9 k2_3 | omega) (show 0 ≤ nf from by first | exact g10 | omega) (show 0 ≤ (cf_2 37).toInt from by first | exact oz_f3ebed1ad0 k2_2 g11 | omega) (show 0 ≤ (cf_2 54).toInt from by first | exact oz_16d7fa9f32 k2_16 g12 | omega) (show (cf_2 54).toInt ≤ 4096 * (cf_2 48).toInt from by first | exact oz_c501c098b4 k2_19 g13 | omega) (show 0 ≤ (cf_2 42).toInt from by first | exact oz_16d7fa9f32 k2_17 g14 | omega) (show (cf_2 42).toInt ≤ 4 + 4096 * (cf_2 48).toInt from by first | exact oz_658acb1b4c k2_20 g15 | omega) (show 0 ≤ (cf_2 44).toInt from by first | exact oz_f3ebed1ad0 k2_5 g16 | omega) (show 0 ≤ (cf_2 45).toInt from by first | exact oz_f3ebed1ad0 k2_6 g17 | omega) (show ys ≤ (cf_2 48).toInt ∨ tx = 1 from by omega) (show 0 ≤ (cf_2 46).toInt from by first | exact oz_f3ebed1ad0 k2_7 g19 | omega) (show (cf_2 46).toInt ≤ 1 from by first | exact oz_878017becc k2_7 g20 | omega) (show 0 ≤ (cf_2 47).toInt from by first | exact oz_f3ebed1ad0 k2_8 g21 | omega) (show (cf_2 47).toInt ≤ 1 from by first | exact oz_878017becc k2_8 g22 | omega) (show (cf_2 44).toInt + (d : Int) ≤ 400 from by first | exact oz_fd63dfae6d g23 k2_5 | omega) (show (cf_2 45).toInt + (d : Int) ≤ 400 from by first | exact oz_fd63dfae6d g24 k2_6 | omega) (show 0 ≤ (cf_2 43).toInt from by first | exact oz_f3ebed1ad0 k2_4 g25 | omega) (show (cf_2 43).toInt < 2100 from by first | exact oz_b365134983 k2_4 g26 | omega) (show tx = 0 from by first | exact g27 | omega) htk (FsI.le (N' := (pf 13).toInt) hfs (by omega)) hwr (KnT.eq hkt (by omega)) (FnT.eq hft (by omega)) (KnS.eq hks (by omega) (by omega)) hfp (SyR.eq hsr (by omega) (by omega)) han (show txo (cf_2 43).toInt = tx from by rw [show (cf_2 43).toInt = (cf 43).toInt by omega]; exact htx) hsc_x2_2 _) hT (pr := []) (pcs := [wdP cs h r g tf ta pf na ma_2 wa cf_2 ca_2 ef ea xf xa]) hw (oX_call (P := (fun A U H => (oP A g U H))) (pr := []) oG_P hw hA hP) (px_recv hT hw 0 0 rfl rfl rfl) m12_201 m12_198 m12_200 ms_12_3 m1_21 q_Mpg_checkStatement ⟨show (6 * d + 26) + 1 ≤ (6 * d + 27) from (by first | exact oz_4c0c19d25c | omega), show 8 + (3 + 11) + (260 * d + 900) ≤ (260 * d + 940) from (by first | exact oz_8151bee62e | omega)⟩ hl.1 rfl (Nat.le_of_ble_eq_true rfl) d_Mpg_statements_8 ⟨Nat.le_of_ble_eq_true rfl, Nat.le_of_ble_eq_true rfl⟩) hw hA (fun p11 H locs hp11 hw => ?_)
        obtain ⟨ma8, cf9, ca10, rfl, e13, e14, e15, e16, e17, e18, e19, e20, e21, e22, e23, e24, e25, e26, e27, e28, e29, e30, e31, e32, e33, e34, e35, e36, e37, e38, e39, e40, e41⟩ := hp11
        have e13 : (cf9 30).toInt = 0 → (cf_2 30).toInt = 0 := e13
        have e14 : WrV cf9 (tf 6).toInt := e14
        have hwr := e14
        have hw0_e14 := hwr.1
        have e15 : (cf9 37).toInt = (cf_2 37).toInt := e15
        have e16 : (cf9 38).toInt = (cf_2 38).toInt := e16
        have e17 : (cf9 43).toInt = (cf_2 43).toInt := e17
        have e18 : (cf9 44).toInt = (cf_2 44).toInt := e18
        have e19 : (cf9 45).toInt = (cf_2 45).toInt := e19
        have e20 : (cf9 46).toInt = (cf_2 46).toInt := e20
        have e21 : (cf9 47).toInt = (cf_2 47).toInt := e21
        have e22 : (cf9 41).toInt = (cf_2 41).toInt := e22
        have e23 : (cf9 55).toInt = (cf_2 55).toInt := e23
        have e24 : (cf9 59).toInt = (cf_2 59).toInt := e24
        have e25 : (cf_2 33).toInt ≤ (cf9 33).toInt := e25
        have e26 : 6 * (cf9 33).toInt ≤ 6 * (cf_2 33).toInt + (wv4) := e26
        have e27 : (cf_2 48).toInt ≤ (cf9 48).toInt := e27
        have e28 : 6 * (cf9 48).toInt ≤ 6 * (cf_2 48).toInt + (wv4) := e28
        have e29 : (cf_2 54).toInt ≤ (cf9 54).toInt := e29
        have e30 : (cf_2 42).toInt ≤ (cf9 42).toInt := e30
        have e31 : (cf9 54).toInt - (cf_2 54).toInt ≤ 4 * ((cf9 42).toInt - (cf_2 42).toInt) := e31
        have e32 : (cf9 54).toInt - (cf_2 54).toInt ≤ 4096 * ((cf9 48).toInt - (cf_2 48).toInt) := e32
        have e33 : (cf9 42).toInt - (cf_2 42).toInt ≤ 4096 * ((cf9 48).toInt - (cf_2 48).toInt) := e33
        have e34 : KnT (tf 6).toInt ca10 (cf9 33).toInt := e34
        have hkt := e34
        have hk11_e34 := hkt.1
        have e35 : KnS ca10 (cf9 33).toInt (cf9 48).toInt ys := e35
        have hks := e35
        have e36 : CaG ca_2 ca10 (cf_2 33).toInt (cf_2 48).toInt := e36
        have hcg := hcg.tr e36 (by omega) (by omega)
        have hft := hft.cg e36
        have hfp := hfp.cg e36
        have e37 : SyR ca10 ys (cf9 48).toInt (cf9 54).toInt tx := e37
        have hsr := e37
        have e38 : Ann na ma0 ma8 := e38
        have han := e38
        have e39 : FrC mid_2 md3 ma_2 ma8 := e39
        have hfc := hfc.tr e39 (by omega) (by omega)
        have hzts : ZTs cf9 ta ca10 na ma0 (cf9 48).toInt ys nf ma8 lo mid_2 p0 x2_2 (tgv (cf 44).toInt (cf 45).toInt) := ZTs.tr hzts (fun q => by omega) e39 (by omega) e36 (by omega) (by omega)
        have e40 : ZTe cf9 ta ca10 na ma0 (cf9 48).toInt ys nf ma8 mid_2 md3 x2_2 (tgv (cf_2 44).toInt (cf_2 45).toInt) := e40
        have hts_x2_2 : ZTe cf9 ta ca10 na ma0 (cf9 48).toInt ys nf ma8 mid_2 md3 x2_2 (tgv (cf 44).toInt (cf 45).toInt) := ZTe.to e40 (fun q => by omega) (by omega) (Int.le_refl _) (Int.le_refl _) (by congr 1 <;> omega)
        have e41 : RL_mp_checkStatement d tf ta na x2_2 ma_2 cf_2 ca_2 ma8 cf9 ca10 := e41
        have hw : pw D A s.heap H locs [wdP cs h r g tf ta pf na ma8 wa cf9 ca10 ef ea xf xa] := hw
        refine lv_aload_n S.x S.b d_Mpg_statements_11 rfl (lv_at hl 0 rfl) ?_
        refine px_get S k_Mpg hT hw 0 0 21 (v := .ref (r 21)) rfl rfl rfl (by decide) m10_7 d_Mpg_statements_12 ?_
        refine lv_iload_n S.x S.b d_Mpg_statements_15 rfl (lv_at hl 2 rfl) ?_
        refine px_iald S hT hw 0 17 (n := 2100) (f := (na 21)) rfl gp_21 (x := x2_2) (vp_in_iff.mpr (by constructor <;> omega)) d_Mpg_statements_16 ?_
        refine lv_topi (fun z42 ez42 => ?_)
        have lz42 := Int32.le_toInt z42
        have uz42 := Int32.toInt_lt z42
        refine lv_istore_n (lv' := [(2, .int z42), (0, .ref h), (1, .int p0)]) S.x S.b d_Mpg_statements_17 rfl hl (by decide) rfl (fun ls hl => ?_)
        refine lv_goto (tgt := 2) S.x S.b d_Mpg_statements_18 (by decide) ?_
        exact ih2 ma8 cf9 ca10 md3 (wr_2 - wv4) z42 _ _ ls (show (cf9 30).toInt = 0 → (cf 30).toInt = 0 from by omega) (show WrV cf9 (tf 6).toInt from hwr) (show (cf9 37).toInt = (cf 37).toInt from by first | exact oz_1687f4cc65 k2_2 e15 | omega) (show (cf9 38).toInt = (cf 38).toInt from by first | exact oz_1687f4cc65 k2_3 e16 | omega) (show (cf9 43).toInt = (cf 43).toInt from by first | exact oz_1687f4cc65 k2_4 e17 | omega) (show (cf9 44).toInt = (cf 44).toInt from by first | exact oz_1687f4cc65 k2_5 e18 | omega) (show (cf9 45).toInt = (cf 45).toInt from by first | exact oz_1687f4cc65 k2_6 e19 | omega) (show (cf9 46).toInt = (cf 46).toInt from by first | exact oz_1687f4cc65 k2_7 e20 | omega) (show (cf9 47).toInt = (cf 47).toInt from by first | exact oz_1687f4cc65 k2_8 e21 | omega) (show (cf9 41).toInt = (cf 41).toInt from by first | exact oz_1687f4cc65 k2_9 e22 | omega) (show (cf9 55).toInt = (cf 55).toInt from by first | exact oz_1687f4cc65 k2_10 e23 | omega) (show (cf9 59).toInt = (cf 59).toInt from by first | exact oz_1687f4cc65 k2_11 e24 | omega) (show (cf 33).toInt ≤ (cf9 33).toInt from by first | exact oz_be764f19f0 k2_12 e25 | omega) (show 6 * (cf9 33).toInt ≤ 6 * (cf 33).toInt + (w - (wr_2 - wv4)) from by first | exact oz_ed5ab580af k2_13 e26 | omega) (show (cf 48).toInt ≤ (cf9 48).toInt from by first | exact oz_b78d9f65b9 k2_20 e33 k2_17 e30 | omega) (show 6 * (cf9 48).toInt ≤ 6 * (cf 48).toInt + (w - (wr_2 - wv4)) from by first | exact oz_ed5ab580af k2_15 e28 | omega) (show (cf 54).toInt ≤ (cf9 54).toInt from by first | exact oz_be764f19f0 k2_16 e29 | omega) (show (cf 42).toInt ≤ (cf9 42).toInt from by first | exact oz_be764f19f0 k2_17 e30 | omega) (show (cf9 54).toInt - (cf 54).toInt ≤ 4 * ((cf9 42).toInt - (cf 42).toInt) from by first | exact oz_7f5bac6b34 k2_18 e31 | omega) (show (cf9 54).toInt - (cf 54).toInt ≤ 4096 * ((cf9 48).toInt - (cf 48).toInt) from by first | exact oz_f877ead219 k2_19 e32 | omega) (show (cf9 42).toInt - (cf 42).toInt ≤ 4096 * ((cf9 48).toInt - (cf 48).toInt) from by first | exact oz_f877ead219 k2_20 e33 | omega) (show KnT (tf 6).toInt ca10 (cf9 33).toInt from (KnT.eq hkt (by omega))) (show KnS ca10 (cf9 33).toInt (cf9 48).toInt ys from (KnS.eq hks (by omega) (by omega))) (show CaG ca ca10 (cf 33).toInt (cf 48).toInt from (hcg.le (by omega) (by omega))) (show SyR ca10 ys (cf9 48).toInt (cf9 54).toInt tx from (SyR.eq hsr (by omega) (by omega))) (show Ann na ma0 ma8 from han) (show FrC lo hi ma ma8 from hfc) (show lo ≤ md3 from by first | exact hm1_md3 | omega) (show md3 ≤ hi from by first | exact hm2_md3 | omega) (show 0 ≤ (wr_2 - wv4) from by omega) (show (wr_2 - wv4) ≤ w from by first | exact oz_d50b28d761 k2_15 e28 k2_14 e27 | omega) (show RvS ta (tf 6).toInt na ma0 d md3 hi (wr_2 - wv4) z42 from (by rw [ez42]; exact hrs2)) (show ZTs cf9 ta ca10 na ma0 (cf9 48).toInt ys nf ma8 lo md3 p0 z42 (tgv (cf 44).toInt (cf 45).toInt) from (ZTs.nx (ZTs.to hzts (fun q => by omega) (by omega) (Int.le_refl _) (by omega) rfl) (ZTe.to hts_x2_2 (fun q => by omega) (by omega) (by omega) (Int.le_refl _) rfl) (by omega) ez42)) (show K_mp_statements_2 (RL_mp_checkStatement d) tf ta na p0 ma cf ca ma8 cf9 ca10 z42 from (fun y_f0 y_f1 y_f2 k hE => k2_33 y_f0 y_f1 y_f2 (k + 1) (Or.inr (Or.inl ⟨rfl, x2_2, rfl, rfl, rfl, rfl, rfl, Or.inr ⟨nc1, ma8, cf9, ca10, e41, z42, ez42, hE⟩⟩)))) (show hi - md3 < (n_2 : Int) from by omega) hw (lv_sub hl [1, 2, 0] rfl)
  refine lv_iload_n S.x S.b d_Mpg_statements_0 rfl (lv_at hl 1 rfl) ?_
  refine lv_istore_n (lv' := [(2, .int p0), (0, .ref h), (1, .int p0)]) S.x S.b d_Mpg_statements_1 rfl hl (by decide) rfl (fun ls hl => ?_)
  exact J2 ((hi - lo).toNat + 1) ma cf ca lo w p0 _ _ ls (show (cf 30).toInt = 0 → (cf 30).toInt = 0 from by first | exact fun q9 => q9 | omega) (show WrV cf (tf 6).toInt from hwr) (show (cf 37).toInt = (cf 37).toInt from rfl) (show (cf 38).toInt = (cf 38).toInt from rfl) (show (cf 43).toInt = (cf 43).toInt from rfl) (show (cf 44).toInt = (cf 44).toInt from rfl) (show (cf 45).toInt = (cf 45).toInt from rfl) (show (cf 46).toInt = (cf 46).toInt from rfl) (show (cf 47).toInt = (cf 47).toInt from rfl) (show (cf 41).toInt = (cf 41).toInt from rfl) (show (cf 55).toInt = (cf 55).toInt from rfl) (show (cf 59).toInt = (cf 59).toInt from rfl) (show (cf 33).toInt ≤ (cf 33).toInt from by first | exact oz_1cb5f934a5 | omega) (show 6 * (cf 33).toInt ≤ 6 * (cf 33).toInt + (w - w) from by first | exact oz_1c3b0c11f9 | omega) (show (cf 48).toInt ≤ (cf 48).toInt from by first | exact oz_1cb5f934a5 | omega) (show 6 * (cf 48).toInt ≤ 6 * (cf 48).toInt + (w - w) from by first | exact oz_1c3b0c11f9 | omega) (show (cf 54).toInt ≤ (cf 54).toInt from by first | exact oz_1cb5f934a5 | omega) (show (cf 42).toInt ≤ (cf 42).toInt from by first | exact oz_1cb5f934a5 | omega) (show (cf 54).toInt - (cf 54).toInt ≤ 4 * ((cf 42).toInt - (cf 42).toInt) from by first | exact oz_a1153f1990 | omega) (show (cf 54).toInt - (cf 54).toInt ≤ 4096 * ((cf 48).toInt - (cf 48).toInt) from by first | exact oz_f4137ca117 | omega) (show (cf 42).toInt - (cf 42).toInt ≤ 4096 * ((cf 48).toInt - (cf 48).toInt) from by first | exact oz_f4137ca117 | omega) (show KnT (tf 6).toInt ca (cf 33).toInt from (KnT.eq hkt (by omega))) (show KnS ca (cf 33).toInt (cf 48).toInt ys from (KnS.eq hks (by omega) (by omega))) (show CaG ca ca (cf 33).toInt (cf 48).toInt from (hcg.le (by omega) (by omega))) (show SyR ca ys (cf 48).toInt (cf 54).toInt tx from (SyR.eq hsr (by omega) (by omega))) (show Ann na ma0 ma from han) (show FrC lo hi ma ma from hfc) (show lo ≤ lo from by first | exact oz_1cb5f934a5 | omega) (show lo ≤ hi from by first | exact g28 | omega) (show 0 ≤ w from by first | exact g5 | omega) (show w ≤ w from by first | exact oz_1cb5f934a5 | omega) (show RvS ta (tf 6).toInt na ma0 d lo hi w p0 from hrs) (show ZTs cf ta ca na ma0 (cf 48).toInt ys nf ma lo lo p0 p0 (tgv (cf 44).toInt (cf 45).toInt) from (zts_0 rfl)) (show K_mp_statements_2 (RL_mp_checkStatement d) tf ta na p0 ma cf ca ma cf ca p0 from (fun y_f0 y_f1 y_f2 k hE => Exists.intro (k + 1) (Or.inl ⟨rfl, hE⟩))) (show hi - lo < ((((hi - lo).toNat + 1 : Nat) : Int) : Int) from by first | exact oz_natlt | omega) hw (lv_sub hl [1, 2, 0] rfl)
abbrev b_Mpg_checkBlock : ByteArray := prog_16_method_90_code
def y_Mpg_checkBlock : MethodName := ⟨"HomeSystemModel$Program", "checkBlock", "(I)V"⟩
theorem d_Mpg_checkBlock_0 : decode b_Mpg_checkBlock 0 = .ok (.aload_n 0, 1) := by decide +kernel
theorem d_Mpg_checkBlock_1 : decode b_Mpg_checkBlock 1 = .ok (.getfield 528, 3) := by decide +kernel
theorem d_Mpg_checkBlock_4 : decode b_Mpg_checkBlock 4 = .ok (.istore_n 2, 1) := by decide +kernel
theorem d_Mpg_checkBlock_5 : decode b_Mpg_checkBlock 5 = .ok (.aload_n 0, 1) := by decide +kernel
theorem d_Mpg_checkBlock_6 : decode b_Mpg_checkBlock 6 = .ok (.getfield 556, 3) := by decide +kernel
theorem d_Mpg_checkBlock_9 : decode b_Mpg_checkBlock 9 = .ok (.istore_n 3, 1) := by decide +kernel
theorem d_Mpg_checkBlock_10 : decode b_Mpg_checkBlock 10 = .ok (.aload_n 0, 1) := by decide +kernel
theorem d_Mpg_checkBlock_11 : decode b_Mpg_checkBlock 11 = .ok (.aload_n 0, 1) := by decide +kernel
theorem d_Mpg_checkBlock_12 : decode b_Mpg_checkBlock 12 = .ok (.getfield 528, 3) := by decide +kernel
theorem d_Mpg_checkBlock_15 : decode b_Mpg_checkBlock 15 = .ok (.putfield 556, 3) := by decide +kernel
theorem d_Mpg_checkBlock_18 : decode b_Mpg_checkBlock 18 = .ok (.aload_n 0, 1) := by decide +kernel
theorem d_Mpg_checkBlock_19 : decode b_Mpg_checkBlock 19 = .ok (.aload_n 0, 1) := by decide +kernel
theorem d_Mpg_checkBlock_20 : decode b_Mpg_checkBlock 20 = .ok (.getfield 216, 3) := by decide +kernel
theorem d_Mpg_checkBlock_23 : decode b_Mpg_checkBlock 23 = .ok (.iload_n 1, 1) := by decide +kernel
theorem d_Mpg_checkBlock_24 : decode b_Mpg_checkBlock 24 = .ok (.iaload, 1) := by decide +kernel
theorem d_Mpg_checkBlock_25 : decode b_Mpg_checkBlock 25 = .ok (.invokevirtual 639, 3) := by decide +kernel
theorem d_Mpg_checkBlock_28 : decode b_Mpg_checkBlock 28 = .ok (.aload_n 0, 1) := by decide +kernel
theorem d_Mpg_checkBlock_29 : decode b_Mpg_checkBlock 29 = .ok (.iload_n 2, 1) := by decide +kernel
theorem d_Mpg_checkBlock_30 : decode b_Mpg_checkBlock 30 = .ok (.iload_n 3, 1) := by decide +kernel
theorem d_Mpg_checkBlock_31 : decode b_Mpg_checkBlock 31 = .ok (.invokevirtual 642, 3) := by decide +kernel
theorem d_Mpg_checkBlock_34 : decode b_Mpg_checkBlock 34 = .ok (.return_, 1) := by decide +kernel
theorem q_Mpg_checkBlock : px_y y_Mpg_checkBlock 1 := by unfold px_y; decide +kernel
set_option maxHeartbeats 4000000 in
set_option maxRecDepth 100000 in
theorem c_mp_checkBlock (l : Launch) (D : va_G) (cs : Nat → ClassId) (ma0 : Nat → Nat → Int32) (ys : Int) (nf : Int) (tx : Int) (d : Nat) (lo : Int) (hi : Int) (w : Int) (h : Nat) (r : Nat → Nat) (g : Nat → Nat → Option Nat) (tf : Nat → Int32) (ta : Nat → Nat → Int32) (pf : Nat → Int32) (na : Nat → Nat → Int32) (wa : Nat → Nat → Int32) (ef : Nat → Int32) (ea : Nat → Nat → Int32) (xf : Nat → Int32) (xa : Nat → Nat → Int32) (ma : Nat → Nat → Int32) (cf : Nat → Int32) (ca : Nat → Nat → Int32) (p0 : Int32)  (g0 : 0 ≤ lo) (g1 : hi ≤ (pf 13).toInt) (g2 : (pf 13).toInt ≤ 2100) (g3 : (tf 6).toInt ≤ 2049) (g4 : 0 ≤ (cf 33).toInt) (g5 : 0 ≤ w) (g6 : 6 * (cf 33).toInt + w ≤ 6540) (g7 : 0 ≤ (cf 48).toInt) (g8 : 6 * (cf 48).toInt + w ≤ 6540) (g9 : (cf 38).toInt = nf) (g10 : 0 ≤ nf) (g11 : 0 ≤ (cf 37).toInt) (g12 : 0 ≤ (cf 54).toInt) (g13 : (cf 54).toInt ≤ 4096 * (cf 48).toInt) (g14 : 0 ≤ (cf 42).toInt) (g15 : (cf 42).toInt ≤ 4 + 4096 * (cf 48).toInt) (g16 : 0 ≤ (cf 44).toInt) (g17 : 0 ≤ (cf 45).toInt) (g18 : ys ≤ (cf 48).toInt ∨ tx = 1) (g19 : 0 ≤ (cf 46).toInt) (g20 : (cf 46).toInt ≤ 1) (g21 : 0 ≤ (cf 47).toInt) (g22 : (cf 47).toInt ≤ 1) (g23 : (cf 44).toInt + (d : Int) ≤ 400) (g24 : (cf 45).toInt + (d : Int) ≤ 400) (g25 : 0 ≤ (cf 43).toInt) (g26 : (cf 43).toInt < 2100) (g27 : tx = 0) (g28 : (na 14 p0.toNatClampNeg).toInt = 20) (htk : TkI tf ta) (hfs : FsI (tf 6).toInt (pf 13).toInt na) (hwr : WrV cf (tf 6).toInt) (hkt : KnT (tf 6).toInt ca (cf 33).toInt) (hft : FnT (tf 6).toInt na ca (cf 38).toInt) (hks : KnS ca (cf 33).toInt (cf 48).toInt ys) (hfp : FnP na ca nf) (hsr : SyR ca ys (cf 48).toInt (cf 54).toInt tx) (han : Ann na ma0 ma) (htx : txo (cf 43).toInt = tx) (hsc : ScV ta (tf 6).toInt na ma0 (d + 1) lo hi w p0) (hLS : StC l D cs d) : MetV l y_Mpg_checkBlock b_Mpg_checkBlock 4 D cs (6 * d + 28) (260 * d + 980) (0) (0) [.ref h, .int p0] [wdP cs h r g tf ta pf na ma wa cf ca ef ea xf xa] (oX (fun A U H => (oP A g U H)) [wdP cs h r g tf ta pf na ma wa cf ca ef ea xf xa]) (fun ps => ∃ (ma' : Nat → Nat → Int32) (cf' : Nat → Int32) (ca' : Nat → Nat → Int32), (ps = [wdP cs h r g tf ta pf na ma' wa cf' ca' ef ea xf xa]) ∧ ((cf' 30).toInt = 0 → (cf 30).toInt = 0) ∧ (WrV cf' (tf 6).toInt) ∧ ((cf' 37).toInt = (cf 37).toInt) ∧ ((cf' 38).toInt = (cf 38).toInt) ∧ ((cf' 43).toInt = (cf 43).toInt) ∧ ((cf' 44).toInt = (cf 44).toInt) ∧ ((cf' 45).toInt = (cf 45).toInt) ∧ ((cf' 46).toInt = (cf 46).toInt) ∧ ((cf' 47).toInt = (cf 47).toInt) ∧ ((cf' 41).toInt = (cf 41).toInt) ∧ ((cf' 55).toInt = (cf 55).toInt) ∧ ((cf' 59).toInt = (cf 59).toInt) ∧ ((cf' 33).toInt = (cf 33).toInt) ∧ ((cf 48).toInt ≤ (cf' 48).toInt) ∧ (6 * (cf' 48).toInt ≤ 6 * (cf 48).toInt + (w)) ∧ ((cf 54).toInt ≤ (cf' 54).toInt) ∧ ((cf 42).toInt ≤ (cf' 42).toInt) ∧ ((cf' 54).toInt - (cf 54).toInt ≤ 4 * ((cf' 42).toInt - (cf 42).toInt)) ∧ ((cf' 54).toInt - (cf 54).toInt ≤ 4096 * ((cf' 48).toInt - (cf 48).toInt)) ∧ ((cf' 42).toInt - (cf 42).toInt ≤ 4096 * ((cf' 48).toInt - (cf 48).toInt)) ∧ (KnT (tf 6).toInt ca' (cf' 33).toInt) ∧ (KnS ca' (cf' 33).toInt (cf' 48).toInt ys) ∧ (CaG ca ca' (cf 33).toInt (cf 48).toInt) ∧ (SyR ca' ys (cf' 48).toInt (cf' 54).toInt tx) ∧ (Ann na ma0 ma') ∧ (FrC lo hi ma ma') ∧ (ZTe cf' ta ca' na ma0 (cf' 48).toInt ys nf ma' lo hi p0 (tgv (cf 44).toInt (cf 45).toInt)) ∧ (R_mp_checkBlock (RL_mp_checkStatement d) tf ta na p0 ma cf ca ma' cf' ca')) := by
  refine px_enter (by decide) (Nat.le_of_ble_eq_true rfl) ?_
  intro p e s m below meth c A ls hAe S hr hlk hnm hA hT hX hw hl
  have hl : lv_has ls 4 [(0, .ref h), (1, .int p0)] := hl
  have lp0 := Int32.le_toInt p0
  have up0 := Int32.toInt_lt p0
  have hX : (fun A U H => (oP A g U H)) A s s.heap := by rw [hAe]; exact hX
  have hP := hX
  have hZ := hP.1
  have hF0 := hP.2.1
  have hfc : FrC lo hi ma ma := FrC.rf
  have hwr0 := hwr.1
  have hk11 := hkt.1
  have hf11 := hft.1
  have hcg : CaG ca ca (cf 33).toInt (cf 48).toInt := CaG.rf
  have hkt0 := hkt
  have hks0 := hks
  have hsr0 := ScV.rng hsc
  have hrs_a := ScV.s20 hsc (by omega) rfl
  refine lv_aload_n S.x S.b d_Mpg_checkBlock_0 rfl (lv_at hl 0 rfl) ?_
  refine px_get S k_Mpg hT hw 0 0 33 (v := .int (cf 33)) rfl rfl rfl (by decide) m10_22 d_Mpg_checkBlock_1 ?_
  refine lv_istore_n (lv' := [(2, .int (cf 33)), (0, .ref h), (1, .int p0)]) S.x S.b d_Mpg_checkBlock_4 rfl hl (by decide) rfl (fun ls hl => ?_)
  refine lv_aload_n S.x S.b d_Mpg_checkBlock_5 rfl (lv_at hl 1 rfl) ?_
  refine px_get S k_Mpg hT hw 0 0 37 (v := .int (cf 37)) rfl rfl rfl (by decide) m10_26 d_Mpg_checkBlock_6 ?_
  refine lv_istore_n (lv' := [(3, .int (cf 37)), (2, .int (cf 33)), (0, .ref h), (1, .int p0)]) S.x S.b d_Mpg_checkBlock_9 rfl hl (by decide) rfl (fun ls hl => ?_)
  refine lv_aload_n S.x S.b d_Mpg_checkBlock_10 rfl (lv_at hl 2 rfl) ?_
  refine lv_aload_n S.x S.b d_Mpg_checkBlock_11 rfl (lv_at hl 2 rfl) ?_
  refine px_get S k_Mpg hT hw 0 0 33 (v := .int (cf 33)) rfl rfl rfl (by decide) m10_22 d_Mpg_checkBlock_12 ?_
  refine px_put S k_Mpg hT hw 0 0 37 rfl rfl (by decide) m10_26 rfl rfl rfl (Nat.le_of_ble_eq_true rfl) d_Mpg_checkBlock_15 (w' := wdP cs h r g tf ta pf na ma wa (upd cf 37 (cf 33)) ca ef ea xf xa) (ps' := [wdP cs h r g tf ta pf na ma wa (upd cf 37 (cf 33)) ca ef ea xf xa]) rfl rfl (fun H locs hw => ?_)
  refine lv_aload_n S.x S.b d_Mpg_checkBlock_18 rfl (lv_at hl 2 rfl) ?_
  refine lv_aload_n S.x S.b d_Mpg_checkBlock_19 rfl (lv_at hl 2 rfl) ?_
  refine px_get S k_Mpg hT hw 0 0 17 (v := .ref (r 17)) rfl rfl rfl (by decide) m10_1 d_Mpg_checkBlock_20 ?_
  refine lv_iload_n S.x S.b d_Mpg_checkBlock_23 rfl (lv_at hl 3 rfl) ?_
  refine px_iald S hT hw 0 13 (n := 2100) (f := (na 17)) rfl gp_17 (x := p0) (vp_in_iff.mpr (by first | exact oz_a7e05de1cd hsr0.2.2.1 hsr0.2.1 g1 g2 | (constructor <;> omega))) d_Mpg_checkBlock_24 ?_
  refine lv_topi (fun z1 ez1 => ?_)
  have lz1 := Int32.le_toInt z1
  have uz1 := Int32.toInt_lt z1
  have hrs_z1 : RvS ta (tf 6).toInt na ma0 d (p0.toInt + 1) hi w z1 := (by rw [ez1]; exact hrs_a)
  refine px_callv (pr := []) (px_runV (As := [.int z1]) (rest := []) S (c_mp_statements l D cs ma0 ys nf tx d (p0.toInt + 1) hi w h r g tf ta pf na wa ef ea xf xa ma (upd cf 37 (cf 33)) ca z1  (show 0 ≤ (p0.toInt + 1) from by first | exact oz_c12c169b81 hsr0.2.2.1 | omega) (show hi ≤ (pf 13).toInt from by first | exact g1 | omega) (show (pf 13).toInt ≤ 2100 from by first | exact g2 | omega) (show (tf 6).toInt ≤ 2049 from by first | exact g3 | omega) (show 0 ≤ (cf 33).toInt from by first | exact g4 | omega) (show 0 ≤ w from by first | exact g5 | omega) (show 6 * (cf 33).toInt + w ≤ 6540 from by first | exact g6 | omega) (show 0 ≤ (cf 48).toInt from by first | exact g7 | omega) (show 6 * (cf 48).toInt + w ≤ 6540 from by first | exact g8 | omega) (show (cf 38).toInt = nf from by first | exact g9 | omega) (show 0 ≤ nf from by first | exact g10 | omega) (show 0 ≤ (cf 33).toInt from by first | exact g4 | omega) (show 0 ≤ (cf 54).toInt from by first | exact g12 | omega) (show (cf 54).toInt ≤ 4096 * (cf 48).toInt from by first | exact g13 | omega) (show 0 ≤ (cf 42).toInt from by first | exact g14 | omega) (show (cf 42).toInt ≤ 4 + 4096 * (cf 48).toInt from by first | exact g15 | omega) (show 0 ≤ (cf 44).toInt from by first | exact g16 | omega) (show 0 ≤ (cf 45).toInt from by first | exact g17 | omega) (show ys ≤ (cf 48).toInt ∨ tx = 1 from by first | exact g18 | omega) (show 0 ≤ (cf 46).toInt from by first | exact g19 | omega) (show (cf 46).toInt ≤ 1 from by first | exact g20 | omega) (show 0 ≤ (cf 47).toInt from by first | exact g21 | omega) (show (cf 47).toInt ≤ 1 from by first | exact g22 | omega) (show (cf 44).toInt + (d : Int) ≤ 400 from by first | exact g23 | omega) (show (cf 45).toInt + (d : Int) ≤ 400 from by first | exact g24 | omega) (show 0 ≤ (cf 43).toInt from by first | exact g25 | omega) (show (cf 43).toInt < 2100 from by first | exact g26 | omega) (show tx = 0 from by first | exact g27 | omega) (show (p0.toInt + 1) ≤ hi from by first | exact oz_8cd8185cc8 hsr0.2.1 | omega) htk (FsI.le (N' := (pf 13).toInt) hfs (by omega)) (WrV.u hwr (by decide) (by decide)) (KnT.eq hkt (show _ = (cf 33).toInt by omega)) (FnT.eq hft (show _ = (cf 38).toInt by omega)) (KnS.eq hks (show _ = (cf 33).toInt by omega) (show _ = (cf 48).toInt by omega)) hfp (SyR.eq hsr (show _ = (cf 48).toInt by omega) (show _ = (cf 54).toInt by omega)) han (show txo (cf 43).toInt = tx from by rw [show (cf 43).toInt = (cf 43).toInt by omega]; exact htx) hrs_z1 hLS _) hT (pr := []) (pcs := [wdP cs h r g tf ta pf na ma wa (upd cf 37 (cf 33)) ca ef ea xf xa]) hw (oX_call (P := (fun A U H => (oP A g U H))) (pr := []) oG_P hw hA hP) (px_recv hT hw 0 0 rfl rfl rfl) m12_197 m12_194 m12_196 ms_12_2 m1_21 q_Mpg_statements ⟨show (6 * d + 27) + 1 ≤ (6 * d + 28) from (by first | exact oz_9eb0cd343c | omega), show 8 + (3 + 11) + (260 * d + 940) ≤ (260 * d + 980) from (by first | exact oz_5adadded27 | omega)⟩ hl.1 rfl (Nat.le_of_ble_eq_true rfl) d_Mpg_checkBlock_25 ⟨Nat.le_of_ble_eq_true rfl, Nat.le_of_ble_eq_true rfl⟩) hw hA (fun p8 H locs hp8 hw => ?_)
  obtain ⟨ma5, cf6, ca7, rfl, e10, e11, e12, e13, e14, e15, e16, e17, e18, e19, e20, e21, e22, e23, e24, e25, e26, e27, e28, e29, e30, e31, e32, e33, e34, e35, e36, e37, e38⟩ := hp8
  have e10 : (cf6 30).toInt = 0 → (cf 30).toInt = 0 := e10
  have e11 : WrV cf6 (tf 6).toInt := e11
  have hwr := e11
  have hw0_e11 := hwr.1
  have e12 : (cf6 37).toInt = (cf 33).toInt := e12
  have e13 : (cf6 38).toInt = (cf 38).toInt := e13
  have e14 : (cf6 43).toInt = (cf 43).toInt := e14
  have e15 : (cf6 44).toInt = (cf 44).toInt := e15
  have e16 : (cf6 45).toInt = (cf 45).toInt := e16
  have e17 : (cf6 46).toInt = (cf 46).toInt := e17
  have e18 : (cf6 47).toInt = (cf 47).toInt := e18
  have e19 : (cf6 41).toInt = (cf 41).toInt := e19
  have e20 : (cf6 55).toInt = (cf 55).toInt := e20
  have e21 : (cf6 59).toInt = (cf 59).toInt := e21
  have e22 : (cf 33).toInt ≤ (cf6 33).toInt := e22
  have e23 : 6 * (cf6 33).toInt ≤ 6 * (cf 33).toInt + (w) := e23
  have e24 : (cf 48).toInt ≤ (cf6 48).toInt := e24
  have e25 : 6 * (cf6 48).toInt ≤ 6 * (cf 48).toInt + (w) := e25
  have e26 : (cf 54).toInt ≤ (cf6 54).toInt := e26
  have e27 : (cf 42).toInt ≤ (cf6 42).toInt := e27
  have e28 : (cf6 54).toInt - (cf 54).toInt ≤ 4 * ((cf6 42).toInt - (cf 42).toInt) := e28
  have e29 : (cf6 54).toInt - (cf 54).toInt ≤ 4096 * ((cf6 48).toInt - (cf 48).toInt) := e29
  have e30 : (cf6 42).toInt - (cf 42).toInt ≤ 4096 * ((cf6 48).toInt - (cf 48).toInt) := e30
  have e31 : KnT (tf 6).toInt ca7 (cf6 33).toInt := e31
  have hkt := e31
  have hk11_e31 := hkt.1
  have e32 : KnS ca7 (cf6 33).toInt (cf6 48).toInt ys := e32
  have hks := e32
  have e33 : CaG ca ca7 (cf 33).toInt (cf 48).toInt := e33
  have hcg := hcg.tr e33 (by omega) (by omega)
  have hft := hft.cg e33
  have hfp := hfp.cg e33
  have e34 : SyR ca7 ys (cf6 48).toInt (cf6 54).toInt tx := e34
  have hsr := e34
  have e35 : Ann na ma0 ma5 := e35
  have han := e35
  have e36 : FrC (p0.toInt + 1) hi ma ma5 := e36
  have hfc := hfc.tr e36 (by omega) (by omega)
  have e37 : ZTw cf6 ta ca7 na ma0 (cf6 48).toInt ys nf ma5 (p0.toInt + 1) hi z1 (tgv (cf 44).toInt (cf 45).toInt) := e37
  have hzw : ZTw cf6 ta ca7 na ma0 (cf6 48).toInt ys nf ma5 (p0.toInt + 1) hi z1 (tgv (cf 44).toInt (cf 45).toInt) := ZTw.to e37 (fun q => by omega) (by omega) (Int.le_refl _) (Int.le_refl _) (by congr 1 <;> omega)
  have e38 : R_mp_statements (RL_mp_checkStatement d) tf ta na z1 ma (upd cf 37 (cf 33)) ca ma5 cf6 ca7 := e38
  have hw : pw D A s.heap H locs [wdP cs h r g tf ta pf na ma5 wa cf6 ca7 ef ea xf xa] := hw
  refine lv_aload_n S.x S.b d_Mpg_checkBlock_28 rfl (lv_at hl 2 rfl) ?_
  refine lv_iload_n S.x S.b d_Mpg_checkBlock_29 rfl (lv_at hl 1 rfl) ?_
  refine lv_iload_n S.x S.b d_Mpg_checkBlock_30 rfl (lv_at hl 0 rfl) ?_
  refine px_callv (pr := []) (px_runV (As := [.int (cf 33), .int (cf 37)]) (rest := []) S (c_mp_leave l D cs h r g tf ta pf na ma5 wa ca7 ef ea xf xa cf6 (cf 33) (cf 37)  htk _) hT (pr := []) (pcs := [wdP cs h r g tf ta pf na ma5 wa cf6 ca7 ef ea xf xa]) hw px_X.tt (px_recv hT hw 0 0 rfl rfl rfl) m12_209 m12_206 m12_208 ms_12_5 m1_21 q_Mpg_leave ⟨show 0 + 1 ≤ (6 * d + 28) from (by first | exact oz_5b1e8b107d | omega), show 8 + (3 + 11) + 0 ≤ (260 * d + 980) from (by first | exact oz_fe417197f6 | omega)⟩ hl.1 rfl (Nat.le_of_ble_eq_true rfl) d_Mpg_checkBlock_31 ⟨Nat.le_of_ble_eq_true rfl, Nat.le_of_ble_eq_true rfl⟩) hw hA (fun p41 H locs hp41 hw => ?_)
  obtain ⟨cf40, rfl, e43, e44, e45, e46, e47, e48, e49, e50, e51, e52, e53, e54, e55, e56, e57, e58, e59, e60, e61⟩ := hp41
  have e43 : (cf40 33).toInt = (cf 33).toInt := e43
  have e44 : (cf40 37).toInt = (cf 37).toInt := e44
  have e45 : (cf40 30).toInt = (cf6 30).toInt := e45
  have e46 : (cf40 31).toInt = (cf6 31).toInt := e46
  have e47 : (cf40 38).toInt = (cf6 38).toInt := e47
  have e48 : (cf40 41).toInt = (cf6 41).toInt := e48
  have e49 : (cf40 42).toInt = (cf6 42).toInt := e49
  have e50 : (cf40 43).toInt = (cf6 43).toInt := e50
  have e51 : (cf40 44).toInt = (cf6 44).toInt := e51
  have e52 : (cf40 45).toInt = (cf6 45).toInt := e52
  have e53 : (cf40 46).toInt = (cf6 46).toInt := e53
  have e54 : (cf40 47).toInt = (cf6 47).toInt := e54
  have e55 : (cf40 48).toInt = (cf6 48).toInt := e55
  have e56 : (cf40 54).toInt = (cf6 54).toInt := e56
  have e57 : (cf40 55).toInt = (cf6 55).toInt := e57
  have e58 : (cf40 57).toInt = (cf6 57).toInt := e58
  have e59 : (cf40 58).toInt = (cf6 58).toInt := e59
  have e60 : (cf40 59).toInt = (cf6 59).toInt := e60
  have e61 : R_mp_leave (cf 33) (cf 37) cf6 cf40 := e61
  have hwr : WrV cf40 (tf 6).toInt := WrV.eq hwr (by omega) (by omega)
  have hkt := KnT.eq (n' := (cf40 33).toInt) (KnT.cg hkt0 hcg (Int.le_refl _)) (by omega)
  have hks := KnS.eq (n' := (cf40 33).toInt) (KnS.cg hks0 hcg (Int.le_refl _) (Int.le_refl _) (n2 := (cf40 48).toInt) (by omega)) (by omega) rfl
  have hzw : ZTw cf40 ta ca7 na ma0 (cf40 48).toInt ys nf ma5 (p0.toInt + 1) hi z1 (tgv (cf 44).toInt (cf 45).toInt) := ZTw.to hzw (fun q => by omega) (by omega) (Int.le_refl _) (Int.le_refl _) rfl
  have hw : pw D A s.heap H locs [wdP cs h r g tf ta pf na ma5 wa cf40 ca7 ef ea xf xa] := hw
  exact px_vret S hr hlk hAe hw (Nat.le_of_ble_eq_true rfl) (Nat.le_of_ble_eq_true rfl) (⟨ma5, cf40, ca7, rfl, (show (cf40 30).toInt = 0 → (cf 30).toInt = 0 from by omega), (show WrV cf40 (tf 6).toInt from hwr), (show (cf40 37).toInt = (cf 37).toInt from by first | exact e44 | omega), (show (cf40 38).toInt = (cf 38).toInt from by first | exact oz_1687f4cc65 e13 e47 | omega), (show (cf40 43).toInt = (cf 43).toInt from by first | exact oz_1687f4cc65 e14 e50 | omega), (show (cf40 44).toInt = (cf 44).toInt from by first | exact oz_1687f4cc65 e15 e51 | omega), (show (cf40 45).toInt = (cf 45).toInt from by first | exact oz_1687f4cc65 e16 e52 | omega), (show (cf40 46).toInt = (cf 46).toInt from by first | exact oz_1687f4cc65 e17 e53 | omega), (show (cf40 47).toInt = (cf 47).toInt from by first | exact oz_1687f4cc65 e18 e54 | omega), (show (cf40 41).toInt = (cf 41).toInt from by first | exact oz_1687f4cc65 e19 e48 | omega), (show (cf40 55).toInt = (cf 55).toInt from by first | exact oz_1687f4cc65 e20 e57 | omega), (show (cf40 59).toInt = (cf 59).toInt from by first | exact oz_1687f4cc65 e21 e60 | omega), (show (cf40 33).toInt = (cf 33).toInt from by first | exact e43 | omega), (show (cf 48).toInt ≤ (cf40 48).toInt from by first | exact oz_73dc218776 e30 e55 e26 e28 | omega), (show 6 * (cf40 48).toInt ≤ 6 * (cf 48).toInt + (w) from by first | exact oz_68efb193db e25 e55 | omega), (show (cf 54).toInt ≤ (cf40 54).toInt from by first | exact oz_b1a9dcfb4c e26 e56 | omega), (show (cf 42).toInt ≤ (cf40 42).toInt from by first | exact oz_94ff7ee8ed e28 e49 e26 | omega), (show (cf40 54).toInt - (cf 54).toInt ≤ 4 * ((cf40 42).toInt - (cf 42).toInt) from by first | exact oz_4001d13b45 e28 e49 e56 | omega), (show (cf40 54).toInt - (cf 54).toInt ≤ 4096 * ((cf40 48).toInt - (cf 48).toInt) from by first | exact oz_761fc723f5 e29 e55 e56 | omega), (show (cf40 42).toInt - (cf 42).toInt ≤ 4096 * ((cf40 48).toInt - (cf 48).toInt) from by first | exact oz_0e7a26fe4a e30 e49 e55 | omega), (show KnT (tf 6).toInt ca7 (cf40 33).toInt from (KnT.eq hkt (by omega))), (show KnS ca7 (cf40 33).toInt (cf40 48).toInt ys from (KnS.eq hks (by omega) (by omega))), (show CaG ca ca7 (cf 33).toInt (cf 48).toInt from (hcg.le (by omega) (by omega))), (show SyR ca7 ys (cf40 48).toInt (cf40 54).toInt tx from (SyR.eq hsr (by omega) (by omega))), (show Ann na ma0 ma5 from han), (show FrC lo hi ma ma5 from hfc), (show ZTe cf40 ta ca7 na ma0 (cf40 48).toInt ys nf ma5 lo hi p0 (tgv (cf 44).toInt (cf 45).toInt) from (fun zz => (ZTw.at hzw (by omega) (by omega) (by omega) (by omega) rfl).elim fun k9 g9 => tys_20 ⟨by omega, by omega, by omega⟩ tgv_rng (by omega) ez1 g9.2 g9.1)), (show R_mp_checkBlock (RL_mp_checkStatement d) tf ta na p0 ma cf ca ma5 cf40 ca7 from (Or.inl ⟨z1, ez1, ma5, cf6, ca7, e38, cf40, e61, rfl, rfl, rfl⟩))⟩) d_Mpg_checkBlock_34
abbrev b_Mpg_checkBody : ByteArray := prog_16_method_93_code
def y_Mpg_checkBody : MethodName := ⟨"HomeSystemModel$Program", "checkBody", "(I)V"⟩
theorem d_Mpg_checkBody_0 : decode b_Mpg_checkBody 0 = .ok (.aload_n 0, 1) := by decide +kernel
theorem d_Mpg_checkBody_1 : decode b_Mpg_checkBody 1 = .ok (.dup, 1) := by decide +kernel
theorem d_Mpg_checkBody_2 : decode b_Mpg_checkBody 2 = .ok (.getfield 667, 3) := by decide +kernel
theorem d_Mpg_checkBody_5 : decode b_Mpg_checkBody 5 = .ok (.iconst 1, 1) := by decide +kernel
theorem d_Mpg_checkBody_6 : decode b_Mpg_checkBody 6 = .ok (.iadd, 1) := by decide +kernel
theorem d_Mpg_checkBody_7 : decode b_Mpg_checkBody 7 = .ok (.putfield 667, 3) := by decide +kernel
theorem d_Mpg_checkBody_10 : decode b_Mpg_checkBody 10 = .ok (.aload_n 0, 1) := by decide +kernel
theorem d_Mpg_checkBody_11 : decode b_Mpg_checkBody 11 = .ok (.iload_n 1, 1) := by decide +kernel
theorem d_Mpg_checkBody_12 : decode b_Mpg_checkBody 12 = .ok (.invokevirtual 636, 3) := by decide +kernel
theorem d_Mpg_checkBody_15 : decode b_Mpg_checkBody 15 = .ok (.aload_n 0, 1) := by decide +kernel
theorem d_Mpg_checkBody_16 : decode b_Mpg_checkBody 16 = .ok (.dup, 1) := by decide +kernel
theorem d_Mpg_checkBody_17 : decode b_Mpg_checkBody 17 = .ok (.getfield 667, 3) := by decide +kernel
theorem d_Mpg_checkBody_20 : decode b_Mpg_checkBody 20 = .ok (.iconst 1, 1) := by decide +kernel
theorem d_Mpg_checkBody_21 : decode b_Mpg_checkBody 21 = .ok (.isub, 1) := by decide +kernel
theorem d_Mpg_checkBody_22 : decode b_Mpg_checkBody 22 = .ok (.putfield 667, 3) := by decide +kernel
theorem d_Mpg_checkBody_25 : decode b_Mpg_checkBody 25 = .ok (.return_, 1) := by decide +kernel
theorem q_Mpg_checkBody : px_y y_Mpg_checkBody 1 := by unfold px_y; decide +kernel
set_option maxHeartbeats 4000000 in
set_option maxRecDepth 100000 in
theorem c_mp_checkBody (l : Launch) (D : va_G) (cs : Nat → ClassId) (ma0 : Nat → Nat → Int32) (ys : Int) (nf : Int) (tx : Int) (d : Nat) (lo : Int) (hi : Int) (w : Int) (h : Nat) (r : Nat → Nat) (g : Nat → Nat → Option Nat) (tf : Nat → Int32) (ta : Nat → Nat → Int32) (pf : Nat → Int32) (na : Nat → Nat → Int32) (wa : Nat → Nat → Int32) (ef : Nat → Int32) (ea : Nat → Nat → Int32) (xf : Nat → Int32) (xa : Nat → Nat → Int32) (ma : Nat → Nat → Int32) (cf : Nat → Int32) (ca : Nat → Nat → Int32) (p0 : Int32)  (g0 : 0 ≤ lo) (g1 : hi ≤ (pf 13).toInt) (g2 : (pf 13).toInt ≤ 2100) (g3 : (tf 6).toInt ≤ 2049) (g4 : 0 ≤ (cf 33).toInt) (g5 : 0 ≤ w) (g6 : 6 * (cf 33).toInt + w ≤ 6540) (g7 : 0 ≤ (cf 48).toInt) (g8 : 6 * (cf 48).toInt + w ≤ 6540) (g9 : (cf 38).toInt = nf) (g10 : 0 ≤ nf) (g11 : 0 ≤ (cf 37).toInt) (g12 : 0 ≤ (cf 54).toInt) (g13 : (cf 54).toInt ≤ 4096 * (cf 48).toInt) (g14 : 0 ≤ (cf 42).toInt) (g15 : (cf 42).toInt ≤ 4 + 4096 * (cf 48).toInt) (g16 : 0 ≤ (cf 44).toInt) (g17 : 0 ≤ (cf 45).toInt) (g18 : ys ≤ (cf 48).toInt ∨ tx = 1) (g19 : 0 ≤ (cf 46).toInt) (g20 : (cf 46).toInt ≤ 1) (g21 : 0 ≤ (cf 47).toInt) (g22 : (cf 47).toInt ≤ 1) (g23 : (cf 44).toInt + (d : Int) ≤ 400) (g24 : (cf 45).toInt + (d : Int) ≤ 400) (g25 : 0 ≤ (cf 43).toInt) (g26 : (cf 43).toInt < 2100) (g27 : tx = 0) (g28 : (cf 44).toInt + (d : Int) + 1 ≤ 400) (htk : TkI tf ta) (hfs : FsI (tf 6).toInt (pf 13).toInt na) (hwr : WrV cf (tf 6).toInt) (hkt : KnT (tf 6).toInt ca (cf 33).toInt) (hft : FnT (tf 6).toInt na ca (cf 38).toInt) (hks : KnS ca (cf 33).toInt (cf 48).toInt ys) (hfp : FnP na ca nf) (hsr : SyR ca ys (cf 48).toInt (cf 54).toInt tx) (han : Ann na ma0 ma) (htx : txo (cf 43).toInt = tx) (hsc : ScV ta (tf 6).toInt na ma0 d lo hi w p0) (hLS : StC l D cs d) : MetV l y_Mpg_checkBody b_Mpg_checkBody 2 D cs (6 * d + 27) (260 * d + 940) (0) (0) [.ref h, .int p0] [wdP cs h r g tf ta pf na ma wa cf ca ef ea xf xa] (oX (fun A U H => (oP A g U H)) [wdP cs h r g tf ta pf na ma wa cf ca ef ea xf xa]) (fun ps => ∃ (ma' : Nat → Nat → Int32) (cf' : Nat → Int32) (ca' : Nat → Nat → Int32), (ps = [wdP cs h r g tf ta pf na ma' wa cf' ca' ef ea xf xa]) ∧ ((cf' 30).toInt = 0 → (cf 30).toInt = 0) ∧ (WrV cf' (tf 6).toInt) ∧ ((cf' 37).toInt = (cf 37).toInt) ∧ ((cf' 38).toInt = (cf 38).toInt) ∧ ((cf' 43).toInt = (cf 43).toInt) ∧ ((cf' 44).toInt = (cf 44).toInt) ∧ ((cf' 45).toInt = (cf 45).toInt) ∧ ((cf' 46).toInt = (cf 46).toInt) ∧ ((cf' 47).toInt = (cf 47).toInt) ∧ ((cf' 41).toInt = (cf 41).toInt) ∧ ((cf' 55).toInt = (cf 55).toInt) ∧ ((cf' 59).toInt = (cf 59).toInt) ∧ ((cf 33).toInt ≤ (cf' 33).toInt) ∧ (6 * (cf' 33).toInt ≤ 6 * (cf 33).toInt + (w)) ∧ ((cf 48).toInt ≤ (cf' 48).toInt) ∧ (6 * (cf' 48).toInt ≤ 6 * (cf 48).toInt + (w)) ∧ ((cf 54).toInt ≤ (cf' 54).toInt) ∧ ((cf 42).toInt ≤ (cf' 42).toInt) ∧ ((cf' 54).toInt - (cf 54).toInt ≤ 4 * ((cf' 42).toInt - (cf 42).toInt)) ∧ ((cf' 54).toInt - (cf 54).toInt ≤ 4096 * ((cf' 48).toInt - (cf 48).toInt)) ∧ ((cf' 42).toInt - (cf 42).toInt ≤ 4096 * ((cf' 48).toInt - (cf 48).toInt)) ∧ (KnT (tf 6).toInt ca' (cf' 33).toInt) ∧ (KnS ca' (cf' 33).toInt (cf' 48).toInt ys) ∧ (CaG ca ca' (cf 33).toInt (cf 48).toInt) ∧ (SyR ca' ys (cf' 48).toInt (cf' 54).toInt tx) ∧ (Ann na ma0 ma') ∧ (FrC lo hi ma ma') ∧ (ZTe cf' ta ca' na ma0 (cf' 48).toInt ys nf ma' lo hi p0 4) ∧ (R_mp_checkBody (RL_mp_checkStatement d) tf ta na p0 ma cf ca ma' cf' ca')) := by
  refine px_enter (by decide) (Nat.le_of_ble_eq_true rfl) ?_
  intro p e s m below meth c A ls hAe S hr hlk hnm hA hT hX hw hl
  have hl : lv_has ls 2 [(0, .ref h), (1, .int p0)] := hl
  have lp0 := Int32.le_toInt p0
  have up0 := Int32.toInt_lt p0
  have cst1 : (1 : Int32).toInt = 1 := rfl
  have hX : (fun A U H => (oP A g U H)) A s s.heap := by rw [hAe]; exact hX
  have hP := hX
  have hZ := hP.1
  have hF0 := hP.2.1
  have hfc : FrC lo hi ma ma := FrC.rf
  have hwr0 := hwr.1
  have hk11 := hkt.1
  have hf11 := hft.1
  have hcg : CaG ca ca (cf 33).toInt (cf 48).toInt := CaG.rf
  have hsc_p0 := hsc
  have hsr0 := ScV.rng hsc
  refine lv_aload_n S.x S.b d_Mpg_checkBody_0 rfl (lv_at hl 0 rfl) ?_
  refine lv_dup S.x S.b d_Mpg_checkBody_1 rfl ?_
  refine px_get S k_Mpg hT hw 0 0 44 (v := .int (cf 44)) rfl rfl rfl (by decide) m10_35 d_Mpg_checkBody_2 ?_
  refine lv_iconst (v := 1) S.x S.b d_Mpg_checkBody_5 (by decide) ?_
  refine lv_iadd S.x S.b d_Mpg_checkBody_6 ?_
  have lr1 := Int32.le_toInt (cf 44)
  have ur1 := Int32.toInt_lt (cf 44)
  refine lv_topi (fun z2 ez2 => ?_)
  have tz2 : z2.toInt = ((cf 44).toInt + (1 : Int) + 2147483648) % 4294967296 - 2147483648 := by rw [ez2]; exact i_add (cf 44) 1
  have lz2 := Int32.le_toInt z2
  have uz2 := Int32.toInt_lt z2
  try replace tz2 : z2.toInt = (cf 44).toInt + (1 : Int) := by omega
  refine px_put S k_Mpg hT hw 0 0 44 rfl rfl (by decide) m10_35 rfl rfl rfl (Nat.le_of_ble_eq_true rfl) d_Mpg_checkBody_7 (w' := wdP cs h r g tf ta pf na ma wa (upd cf 44 z2) ca ef ea xf xa) (ps' := [wdP cs h r g tf ta pf na ma wa (upd cf 44 z2) ca ef ea xf xa]) rfl rfl (fun H locs hw => ?_)
  refine lv_aload_n S.x S.b d_Mpg_checkBody_10 rfl (lv_at hl 0 rfl) ?_
  refine lv_iload_n S.x S.b d_Mpg_checkBody_11 rfl (lv_at hl 1 rfl) ?_
  refine px_callv (pr := []) (px_runV (As := [.int p0]) (rest := []) S (hLS ma0 ys nf tx lo hi w h r g tf ta pf na wa ef ea xf xa ma (upd cf 44 z2) ca p0 (show 0 ≤ lo from by first | exact g0 | omega) (show hi ≤ (pf 13).toInt from by first | exact g1 | omega) (show (pf 13).toInt ≤ 2100 from by first | exact g2 | omega) (show (tf 6).toInt ≤ 2049 from by first | exact g3 | omega) (show 0 ≤ (cf 33).toInt from by first | exact g4 | omega) (show 0 ≤ w from by first | exact g5 | omega) (show 6 * (cf 33).toInt + w ≤ 6540 from by first | exact g6 | omega) (show 0 ≤ (cf 48).toInt from by first | exact g7 | omega) (show 6 * (cf 48).toInt + w ≤ 6540 from by first | exact g8 | omega) (show (cf 38).toInt = nf from by first | exact g9 | omega) (show 0 ≤ nf from by first | exact g10 | omega) (show 0 ≤ (cf 37).toInt from by first | exact g11 | omega) (show 0 ≤ (cf 54).toInt from by first | exact g12 | omega) (show (cf 54).toInt ≤ 4096 * (cf 48).toInt from by first | exact g13 | omega) (show 0 ≤ (cf 42).toInt from by first | exact g14 | omega) (show (cf 42).toInt ≤ 4 + 4096 * (cf 48).toInt from by first | exact g15 | omega) (show 0 ≤ z2.toInt from by first | exact oz_b3b25f0e49 tz2 g16 | omega) (show 0 ≤ (cf 45).toInt from by first | exact g17 | omega) (show ys ≤ (cf 48).toInt ∨ tx = 1 from by first | exact g18 | omega) (show 0 ≤ (cf 46).toInt from by first | exact g19 | omega) (show (cf 46).toInt ≤ 1 from by first | exact g20 | omega) (show 0 ≤ (cf 47).toInt from by first | exact g21 | omega) (show (cf 47).toInt ≤ 1 from by first | exact g22 | omega) (show z2.toInt + (d : Int) ≤ 400 from by first | exact oz_06ad533572 g28 tz2 | omega) (show (cf 45).toInt + (d : Int) ≤ 400 from by first | exact g24 | omega) (show 0 ≤ (cf 43).toInt from by first | exact g25 | omega) (show (cf 43).toInt < 2100 from by first | exact g26 | omega) (show tx = 0 from by first | exact g27 | omega) htk (FsI.le (N' := (pf 13).toInt) hfs (by omega)) (WrV.u hwr (by decide) (by decide)) (KnT.eq hkt (show _ = (cf 33).toInt by omega)) (FnT.eq hft (show _ = (cf 38).toInt by omega)) (KnS.eq hks (show _ = (cf 33).toInt by omega) (show _ = (cf 48).toInt by omega)) hfp (SyR.eq hsr (show _ = (cf 48).toInt by omega) (show _ = (cf 54).toInt by omega)) han (show txo (cf 43).toInt = tx from by rw [show (cf 43).toInt = (cf 43).toInt by omega]; exact htx) hsc_p0 _) hT (pr := []) (pcs := [wdP cs h r g tf ta pf na ma wa (upd cf 44 z2) ca ef ea xf xa]) hw (oX_call (P := (fun A U H => (oP A g U H))) (pr := []) oG_P hw hA hP) (px_recv hT hw 0 0 rfl rfl rfl) m12_201 m12_198 m12_200 ms_12_3 m1_21 q_Mpg_checkStatement ⟨show (6 * d + 26) + 1 ≤ (6 * d + 27) from (by first | exact oz_4c0c19d25c | omega), show 8 + (3 + 11) + (260 * d + 900) ≤ (260 * d + 940) from (by first | exact oz_8151bee62e | omega)⟩ hl.1 rfl (Nat.le_of_ble_eq_true rfl) d_Mpg_checkBody_12 ⟨Nat.le_of_ble_eq_true rfl, Nat.le_of_ble_eq_true rfl⟩) hw hA (fun p9 H locs hp9 hw => ?_)
  obtain ⟨ma6, cf7, ca8, rfl, e11, e12, e13, e14, e15, e16, e17, e18, e19, e20, e21, e22, e23, e24, e25, e26, e27, e28, e29, e30, e31, e32, e33, e34, e35, e36, e37, e38, e39⟩ := hp9
  have e11 : (cf7 30).toInt = 0 → (cf 30).toInt = 0 := e11
  have e12 : WrV cf7 (tf 6).toInt := e12
  have hwr := e12
  have hw0_e12 := hwr.1
  have e13 : (cf7 37).toInt = (cf 37).toInt := e13
  have e14 : (cf7 38).toInt = (cf 38).toInt := e14
  have e15 : (cf7 43).toInt = (cf 43).toInt := e15
  have e16 : (cf7 44).toInt = z2.toInt := e16
  have e17 : (cf7 45).toInt = (cf 45).toInt := e17
  have e18 : (cf7 46).toInt = (cf 46).toInt := e18
  have e19 : (cf7 47).toInt = (cf 47).toInt := e19
  have e20 : (cf7 41).toInt = (cf 41).toInt := e20
  have e21 : (cf7 55).toInt = (cf 55).toInt := e21
  have e22 : (cf7 59).toInt = (cf 59).toInt := e22
  have e23 : (cf 33).toInt ≤ (cf7 33).toInt := e23
  have e24 : 6 * (cf7 33).toInt ≤ 6 * (cf 33).toInt + (w) := e24
  have e25 : (cf 48).toInt ≤ (cf7 48).toInt := e25
  have e26 : 6 * (cf7 48).toInt ≤ 6 * (cf 48).toInt + (w) := e26
  have e27 : (cf 54).toInt ≤ (cf7 54).toInt := e27
  have e28 : (cf 42).toInt ≤ (cf7 42).toInt := e28
  have e29 : (cf7 54).toInt - (cf 54).toInt ≤ 4 * ((cf7 42).toInt - (cf 42).toInt) := e29
  have e30 : (cf7 54).toInt - (cf 54).toInt ≤ 4096 * ((cf7 48).toInt - (cf 48).toInt) := e30
  have e31 : (cf7 42).toInt - (cf 42).toInt ≤ 4096 * ((cf7 48).toInt - (cf 48).toInt) := e31
  have e32 : KnT (tf 6).toInt ca8 (cf7 33).toInt := e32
  have hkt := e32
  have hk11_e32 := hkt.1
  have e33 : KnS ca8 (cf7 33).toInt (cf7 48).toInt ys := e33
  have hks := e33
  have e34 : CaG ca ca8 (cf 33).toInt (cf 48).toInt := e34
  have hcg := hcg.tr e34 (by omega) (by omega)
  have hft := hft.cg e34
  have hfp := hfp.cg e34
  have e35 : SyR ca8 ys (cf7 48).toInt (cf7 54).toInt tx := e35
  have hsr := e35
  have e36 : Ann na ma0 ma6 := e36
  have han := e36
  have e37 : FrC lo hi ma ma6 := e37
  have hfc := hfc.tr e37 (by omega) (by omega)
  have e38 : ZTe cf7 ta ca8 na ma0 (cf7 48).toInt ys nf ma6 lo hi p0 (tgv z2.toInt (cf 45).toInt) := e38
  have hts_p0 : ZTe cf7 ta ca8 na ma0 (cf7 48).toInt ys nf ma6 lo hi p0 4 := ZTe.to e38 (fun q => by omega) (by omega) (Int.le_refl _) (Int.le_refl _) (tgv_4 (by omega))
  have e39 : RL_mp_checkStatement d tf ta na p0 ma (upd cf 44 z2) ca ma6 cf7 ca8 := e39
  have hw : pw D A s.heap H locs [wdP cs h r g tf ta pf na ma6 wa cf7 ca8 ef ea xf xa] := hw
  refine lv_aload_n S.x S.b d_Mpg_checkBody_15 rfl (lv_at hl 0 rfl) ?_
  refine lv_dup S.x S.b d_Mpg_checkBody_16 rfl ?_
  refine px_get S k_Mpg hT hw 0 0 44 (v := .int (cf7 44)) rfl rfl rfl (by decide) m10_35 d_Mpg_checkBody_17 ?_
  refine lv_iconst (v := 1) S.x S.b d_Mpg_checkBody_20 (by decide) ?_
  refine lv_isub S.x S.b d_Mpg_checkBody_21 ?_
  have lr40 := Int32.le_toInt (cf7 44)
  have ur40 := Int32.toInt_lt (cf7 44)
  refine lv_topi (fun z41 ez41 => ?_)
  have tz41 : z41.toInt = ((cf7 44).toInt - (1 : Int) + 2147483648) % 4294967296 - 2147483648 := by rw [ez41]; exact i_sub (cf7 44) 1
  have lz41 := Int32.le_toInt z41
  have uz41 := Int32.toInt_lt z41
  try replace tz41 : z41.toInt = (cf7 44).toInt - (1 : Int) := by omega
  refine px_put S k_Mpg hT hw 0 0 44 rfl rfl (by decide) m10_35 rfl rfl rfl (Nat.le_of_ble_eq_true rfl) d_Mpg_checkBody_22 (w' := wdP cs h r g tf ta pf na ma6 wa (upd cf7 44 z41) ca8 ef ea xf xa) (ps' := [wdP cs h r g tf ta pf na ma6 wa (upd cf7 44 z41) ca8 ef ea xf xa]) rfl rfl (fun H locs hw => ?_)
  exact px_vret S hr hlk hAe hw (Nat.le_of_ble_eq_true rfl) (Nat.le_of_ble_eq_true rfl) (⟨ma6, (upd cf7 44 z41), ca8, rfl, (show (cf7 30).toInt = 0 → (cf 30).toInt = 0 from by first | exact e11 | omega), (show WrV (upd cf7 44 z41) (tf 6).toInt from (WrV.u hwr (by decide) (by decide))), (show (cf7 37).toInt = (cf 37).toInt from by first | exact e13 | omega), (show (cf7 38).toInt = (cf 38).toInt from by first | exact e14 | omega), (show (cf7 43).toInt = (cf 43).toInt from by first | exact e15 | omega), (show z41.toInt = (cf 44).toInt from by first | exact oz_61a5b4c47c tz2 tz41 e16 | omega), (show (cf7 45).toInt = (cf 45).toInt from by first | exact e17 | omega), (show (cf7 46).toInt = (cf 46).toInt from by first | exact e18 | omega), (show (cf7 47).toInt = (cf 47).toInt from by first | exact e19 | omega), (show (cf7 41).toInt = (cf 41).toInt from by first | exact e20 | omega), (show (cf7 55).toInt = (cf 55).toInt from by first | exact e21 | omega), (show (cf7 59).toInt = (cf 59).toInt from by first | exact e22 | omega), (show (cf 33).toInt ≤ (cf7 33).toInt from by first | exact e23 | omega), (show 6 * (cf7 33).toInt ≤ 6 * (cf 33).toInt + (w) from by first | exact e24 | omega), (show (cf 48).toInt ≤ (cf7 48).toInt from by first | exact e25 | omega), (show 6 * (cf7 48).toInt ≤ 6 * (cf 48).toInt + (w) from by first | exact e26 | omega), (show (cf 54).toInt ≤ (cf7 54).toInt from by first | exact e27 | omega), (show (cf 42).toInt ≤ (cf7 42).toInt from by first | exact e28 | omega), (show (cf7 54).toInt - (cf 54).toInt ≤ 4 * ((cf7 42).toInt - (cf 42).toInt) from by first | exact e29 | omega), (show (cf7 54).toInt - (cf 54).toInt ≤ 4096 * ((cf7 48).toInt - (cf 48).toInt) from by first | exact e30 | omega), (show (cf7 42).toInt - (cf 42).toInt ≤ 4096 * ((cf7 48).toInt - (cf 48).toInt) from by first | exact e31 | omega), (show KnT (tf 6).toInt ca8 (cf7 33).toInt from (KnT.eq hkt (by omega))), (show KnS ca8 (cf7 33).toInt (cf7 48).toInt ys from (KnS.eq hks (by omega) (by omega))), (show CaG ca ca8 (cf 33).toInt (cf 48).toInt from (hcg.le (by omega) (by omega))), (show SyR ca8 ys (cf7 48).toInt (cf7 54).toInt tx from (SyR.eq hsr (by omega) (by omega))), (show Ann na ma0 ma6 from han), (show FrC lo hi ma ma6 from hfc), (show ZTe (upd cf7 44 z41) ta ca8 na ma0 (cf7 48).toInt ys nf ma6 lo hi p0 4 from (fun zz => by rw [pk_un (by decide)] at zz; exact (ZTe.at hts_p0 (by omega) (by omega) (by omega) (by omega) rfl))), (show R_mp_checkBody (RL_mp_checkStatement d) tf ta na p0 ma cf ca ma6 (upd cf7 44 z41) ca8 from (Or.inl ⟨z2, ez2, ma6, cf7, ca8, e39, z41, ez41, rfl, rfl, rfl⟩))⟩) d_Mpg_checkBody_25
abbrev b_Mpg_checkReturn : ByteArray := prog_16_method_96_code
def y_Mpg_checkReturn : MethodName := ⟨"HomeSystemModel$Program", "checkReturn", "(I)V"⟩
theorem d_Mpg_checkReturn_0 : decode b_Mpg_checkReturn 0 = .ok (.aload_n 0, 1) := by decide +kernel
theorem d_Mpg_checkReturn_1 : decode b_Mpg_checkReturn 1 = .ok (.getfield 231, 3) := by decide +kernel
theorem d_Mpg_checkReturn_4 : decode b_Mpg_checkReturn 4 = .ok (.aload_n 0, 1) := by decide +kernel
theorem d_Mpg_checkReturn_5 : decode b_Mpg_checkReturn 5 = .ok (.getfield 550, 3) := by decide +kernel
theorem d_Mpg_checkReturn_8 : decode b_Mpg_checkReturn 8 = .ok (.iaload, 1) := by decide +kernel
theorem d_Mpg_checkReturn_9 : decode b_Mpg_checkReturn 9 = .ok (.iconst 2, 1) := by decide +kernel
theorem d_Mpg_checkReturn_10 : decode b_Mpg_checkReturn 10 = .ok (.if_icmp .ne 7, 3) := by decide +kernel
theorem d_Mpg_checkReturn_13 : decode b_Mpg_checkReturn 13 = .ok (.iconst 1, 1) := by decide +kernel
theorem d_Mpg_checkReturn_14 : decode b_Mpg_checkReturn 14 = .ok (.goto 4, 3) := by decide +kernel
theorem d_Mpg_checkReturn_17 : decode b_Mpg_checkReturn 17 = .ok (.iconst 0, 1) := by decide +kernel
theorem d_Mpg_checkReturn_18 : decode b_Mpg_checkReturn 18 = .ok (.istore_n 2, 1) := by decide +kernel
theorem d_Mpg_checkReturn_19 : decode b_Mpg_checkReturn 19 = .ok (.iload_n 2, 1) := by decide +kernel
theorem d_Mpg_checkReturn_20 : decode b_Mpg_checkReturn 20 = .ok (.aload_n 0, 1) := by decide +kernel
theorem d_Mpg_checkReturn_21 : decode b_Mpg_checkReturn 21 = .ok (.getfield 216, 3) := by decide +kernel
theorem d_Mpg_checkReturn_24 : decode b_Mpg_checkReturn 24 = .ok (.iload_n 1, 1) := by decide +kernel
theorem d_Mpg_checkReturn_25 : decode b_Mpg_checkReturn 25 = .ok (.iaload, 1) := by decide +kernel
theorem d_Mpg_checkReturn_26 : decode b_Mpg_checkReturn 26 = .ok (.ifCond .lt 7, 3) := by decide +kernel
theorem d_Mpg_checkReturn_29 : decode b_Mpg_checkReturn 29 = .ok (.iconst 1, 1) := by decide +kernel
theorem d_Mpg_checkReturn_30 : decode b_Mpg_checkReturn 30 = .ok (.goto 4, 3) := by decide +kernel
theorem d_Mpg_checkReturn_33 : decode b_Mpg_checkReturn 33 = .ok (.iconst 0, 1) := by decide +kernel
theorem d_Mpg_checkReturn_34 : decode b_Mpg_checkReturn 34 = .ok (.if_icmp .ne 15, 3) := by decide +kernel
theorem d_Mpg_checkReturn_37 : decode b_Mpg_checkReturn 37 = .ok (.aload_n 0, 1) := by decide +kernel
theorem d_Mpg_checkReturn_38 : decode b_Mpg_checkReturn 38 = .ok (.bipush 11, 2) := by decide +kernel
theorem d_Mpg_checkReturn_40 : decode b_Mpg_checkReturn 40 = .ok (.aload_n 0, 1) := by decide +kernel
theorem d_Mpg_checkReturn_41 : decode b_Mpg_checkReturn 41 = .ok (.getfield 210, 3) := by decide +kernel
theorem d_Mpg_checkReturn_44 : decode b_Mpg_checkReturn 44 = .ok (.iload_n 1, 1) := by decide +kernel
theorem d_Mpg_checkReturn_45 : decode b_Mpg_checkReturn 45 = .ok (.iaload, 1) := by decide +kernel
theorem d_Mpg_checkReturn_46 : decode b_Mpg_checkReturn 46 = .ok (.invokevirtual 565, 3) := by decide +kernel
theorem d_Mpg_checkReturn_49 : decode b_Mpg_checkReturn 49 = .ok (.aload_n 0, 1) := by decide +kernel
theorem d_Mpg_checkReturn_50 : decode b_Mpg_checkReturn 50 = .ok (.getfield 216, 3) := by decide +kernel
theorem d_Mpg_checkReturn_53 : decode b_Mpg_checkReturn 53 = .ok (.iload_n 1, 1) := by decide +kernel
theorem d_Mpg_checkReturn_54 : decode b_Mpg_checkReturn 54 = .ok (.iaload, 1) := by decide +kernel
theorem d_Mpg_checkReturn_55 : decode b_Mpg_checkReturn 55 = .ok (.ifCond .lt 15, 3) := by decide +kernel
theorem d_Mpg_checkReturn_58 : decode b_Mpg_checkReturn 58 = .ok (.aload_n 0, 1) := by decide +kernel
theorem d_Mpg_checkReturn_59 : decode b_Mpg_checkReturn 59 = .ok (.aload_n 0, 1) := by decide +kernel
theorem d_Mpg_checkReturn_60 : decode b_Mpg_checkReturn 60 = .ok (.getfield 216, 3) := by decide +kernel
theorem d_Mpg_checkReturn_63 : decode b_Mpg_checkReturn 63 = .ok (.iload_n 1, 1) := by decide +kernel
theorem d_Mpg_checkReturn_64 : decode b_Mpg_checkReturn 64 = .ok (.iaload, 1) := by decide +kernel
theorem d_Mpg_checkReturn_65 : decode b_Mpg_checkReturn 65 = .ok (.iconst 1, 1) := by decide +kernel
theorem d_Mpg_checkReturn_66 : decode b_Mpg_checkReturn 66 = .ok (.invokevirtual 577, 3) := by decide +kernel
theorem d_Mpg_checkReturn_69 : decode b_Mpg_checkReturn 69 = .ok (.pop, 1) := by decide +kernel
theorem d_Mpg_checkReturn_70 : decode b_Mpg_checkReturn 70 = .ok (.return_, 1) := by decide +kernel
theorem q_Mpg_checkReturn : px_y y_Mpg_checkReturn 1 := by unfold px_y; decide +kernel
set_option maxHeartbeats 4000000 in
set_option maxRecDepth 100000 in
theorem c_mp_checkReturn (l : Launch) (D : va_G) (cs : Nat → ClassId) (ma0 : Nat → Nat → Int32) (ys : Int) (nf : Int) (tx : Int) (d : Nat) (lo : Int) (hi : Int) (w : Int) (h : Nat) (r : Nat → Nat) (g : Nat → Nat → Option Nat) (tf : Nat → Int32) (ta : Nat → Nat → Int32) (pf : Nat → Int32) (na : Nat → Nat → Int32) (wa : Nat → Nat → Int32) (ef : Nat → Int32) (ea : Nat → Nat → Int32) (xf : Nat → Int32) (xa : Nat → Nat → Int32) (ma : Nat → Nat → Int32) (cf : Nat → Int32) (ca : Nat → Nat → Int32) (p0 : Int32)  (g0 : 0 ≤ lo) (g1 : hi ≤ (pf 13).toInt) (g2 : (pf 13).toInt ≤ 2100) (g3 : (tf 6).toInt ≤ 2049) (g4 : 0 ≤ (cf 33).toInt) (g5 : 0 ≤ w) (g6 : 6 * (cf 33).toInt + w ≤ 6540) (g7 : 0 ≤ (cf 48).toInt) (g8 : 6 * (cf 48).toInt + w ≤ 6540) (g9 : (cf 38).toInt = nf) (g10 : 0 ≤ nf) (g11 : 0 ≤ (cf 37).toInt) (g12 : 0 ≤ (cf 54).toInt) (g13 : (cf 54).toInt ≤ 4096 * (cf 48).toInt) (g14 : 0 ≤ (cf 42).toInt) (g15 : (cf 42).toInt ≤ 4 + 4096 * (cf 48).toInt) (g16 : 0 ≤ (cf 44).toInt) (g17 : 0 ≤ (cf 45).toInt) (g18 : ys ≤ (cf 48).toInt ∨ tx = 1) (g19 : 0 ≤ (cf 46).toInt) (g20 : (cf 46).toInt ≤ 1) (g21 : 0 ≤ (cf 47).toInt) (g22 : (cf 47).toInt ≤ 1) (g23 : (cf 44).toInt + (d : Int) ≤ 400) (g24 : (cf 45).toInt + (d : Int) ≤ 400) (g25 : 0 ≤ (cf 43).toInt) (g26 : (cf 43).toInt < 2100) (g27 : tx = 0) (g28 : (na 14 p0.toNatClampNeg).toInt = 33) (htk : TkI tf ta) (hfs : FsI (tf 6).toInt (pf 13).toInt na) (hwr : WrV cf (tf 6).toInt) (hkt : KnT (tf 6).toInt ca (cf 33).toInt) (hft : FnT (tf 6).toInt na ca (cf 38).toInt) (hks : KnS ca (cf 33).toInt (cf 48).toInt ys) (hfp : FnP na ca nf) (hsr : SyR ca ys (cf 48).toInt (cf 54).toInt tx) (han : Ann na ma0 ma) (htx : txo (cf 43).toInt = tx) (hsc : ScV ta (tf 6).toInt na ma0 (d + 1) lo hi w p0) (hLS : StC l D cs d) : MetV l y_Mpg_checkReturn b_Mpg_checkReturn 3 D cs (6 * d + 27) (260 * d + 940) (0) (0) [.ref h, .int p0] [wdP cs h r g tf ta pf na ma wa cf ca ef ea xf xa] (oX (fun A U H => (oP A g U H)) [wdP cs h r g tf ta pf na ma wa cf ca ef ea xf xa]) (fun ps => ∃ (ma' : Nat → Nat → Int32) (cf' : Nat → Int32) (ca' : Nat → Nat → Int32), (ps = [wdP cs h r g tf ta pf na ma' wa cf' ca' ef ea xf xa]) ∧ ((cf' 30).toInt = 0 → (cf 30).toInt = 0) ∧ (WrV cf' (tf 6).toInt) ∧ ((cf' 37).toInt = (cf 37).toInt) ∧ ((cf' 38).toInt = (cf 38).toInt) ∧ ((cf' 43).toInt = (cf 43).toInt) ∧ ((cf' 44).toInt = (cf 44).toInt) ∧ ((cf' 45).toInt = (cf 45).toInt) ∧ ((cf' 46).toInt = (cf 46).toInt) ∧ ((cf' 47).toInt = (cf 47).toInt) ∧ ((cf' 41).toInt = (cf 41).toInt) ∧ ((cf' 55).toInt = (cf 55).toInt) ∧ ((cf' 59).toInt = (cf 59).toInt) ∧ ((cf' 33).toInt = (cf 33).toInt) ∧ ((cf 48).toInt ≤ (cf' 48).toInt) ∧ (6 * (cf' 48).toInt ≤ 6 * (cf 48).toInt + (w)) ∧ ((cf 54).toInt ≤ (cf' 54).toInt) ∧ ((cf 42).toInt ≤ (cf' 42).toInt) ∧ ((cf' 54).toInt - (cf 54).toInt ≤ 4 * ((cf' 42).toInt - (cf 42).toInt)) ∧ ((cf' 54).toInt - (cf 54).toInt ≤ 4096 * ((cf' 48).toInt - (cf 48).toInt)) ∧ ((cf' 42).toInt - (cf 42).toInt ≤ 4096 * ((cf' 48).toInt - (cf 48).toInt)) ∧ (KnT (tf 6).toInt ca' (cf' 33).toInt) ∧ (KnS ca' (cf' 33).toInt (cf' 48).toInt ys) ∧ (CaG ca ca' (cf 33).toInt (cf 48).toInt) ∧ (SyR ca' ys (cf' 48).toInt (cf' 54).toInt tx) ∧ (Ann na ma0 ma') ∧ (FrC lo hi ma ma') ∧ (ZTe cf' ta ca' na ma0 (cf' 48).toInt ys nf ma' lo hi p0 (tgv (cf 44).toInt (cf 45).toInt)) ∧ (R_mp_checkReturn (RL_mp_checkStatement d) tf ta na p0 ma cf ca ma' cf' ca')) := by
  refine px_enter (by decide) (Nat.le_of_ble_eq_true rfl) ?_
  intro p e s m below meth c A ls hAe S hr hlk hnm hA hT hX hw hl
  have hl : lv_has ls 3 [(0, .ref h), (1, .int p0)] := hl
  have lp0 := Int32.le_toInt p0
  have up0 := Int32.toInt_lt p0
  have cst0 : (0 : Int32).toInt = 0 := rfl
  have cst1 : (1 : Int32).toInt = 1 := rfl
  have cst2 : (2 : Int32).toInt = 2 := rfl
  have cst11 : (11 : Int32).toInt = 11 := rfl
  have hX : (fun A U H => (oP A g U H)) A s s.heap := by rw [hAe]; exact hX
  have hP := hX
  have hZ := hP.1
  have hF0 := hP.2.1
  have hfc : FrC lo hi ma ma := FrC.rf
  have hwr0 := hwr.1
  have hk11 := hkt.1
  have hf11 := hft.1
  have hcg : CaG ca ca (cf 33).toInt (cf 48).toInt := CaG.rf
  have hsr0 := ScV.rng hsc
  have hsc_p0 := hsc
  have hoc := ScV.s33 hsc (by omega) (z := na 17 p0.toNatClampNeg) rfl
  refine lv_aload_n S.x S.b d_Mpg_checkReturn_0 rfl (lv_at hl 0 rfl) ?_
  refine px_get S k_Mpg hT hw 0 0 22 (v := .ref (r 22)) rfl rfl rfl (by decide) m10_9 d_Mpg_checkReturn_1 ?_
  refine lv_aload_n S.x S.b d_Mpg_checkReturn_4 rfl (lv_at hl 0 rfl) ?_
  refine px_get S k_Mpg hT hw 0 0 43 (v := .int (cf 43)) rfl rfl rfl (by decide) m10_34 d_Mpg_checkReturn_5 ?_
  refine px_iald S hT hw 0 18 (n := 2100) (f := (ma 22)) rfl gp_22 (x := (cf 43)) (vp_in_iff.mpr (by first | exact oz_bba493d71d g25 g26 | (constructor <;> omega))) d_Mpg_checkReturn_8 ?_
  refine lv_topi (fun z1 ez1 => ?_)
  have lz1 := Int32.le_toInt z1
  have uz1 := Int32.toInt_lt z1
  refine lv_iconst (v := 2) S.x S.b d_Mpg_checkReturn_9 (by decide) ?_
  refine lv_icmp_ne (tgt := 17) S.x S.b d_Mpg_checkReturn_10 (by decide) (fun c2 => ?_) (fun c2 => ?_)
  · have nc2 : ¬ z1.toInt = (2 : Int) := mt (i_eq (x := z1) (y := 2)).mpr c2
    refine lv_iconst (v := 0) S.x S.b d_Mpg_checkReturn_17 (by decide) ?_
    refine lv_istore_n (lv' := [(2, .int 0), (0, .ref h), (1, .int p0)]) S.x S.b d_Mpg_checkReturn_18 rfl hl (by decide) rfl (fun ls hl => ?_)
    refine lv_iload_n S.x S.b d_Mpg_checkReturn_19 rfl (lv_at hl 0 rfl) ?_
    refine lv_aload_n S.x S.b d_Mpg_checkReturn_20 rfl (lv_at hl 1 rfl) ?_
    refine px_get S k_Mpg hT hw 0 0 17 (v := .ref (r 17)) rfl rfl rfl (by decide) m10_1 d_Mpg_checkReturn_21 ?_
    refine lv_iload_n S.x S.b d_Mpg_checkReturn_24 rfl (lv_at hl 2 rfl) ?_
    refine px_iald S hT hw 0 13 (n := 2100) (f := (na 17)) rfl gp_17 (x := p0) (vp_in_iff.mpr (by first | exact oz_a7e05de1cd hsr0.2.2.1 hsr0.2.1 g1 g2 | (constructor <;> omega))) d_Mpg_checkReturn_25 ?_
    refine lv_topi (fun z4 ez4 => ?_)
    have lz4 := Int32.le_toInt z4
    have uz4 := Int32.toInt_lt z4
    have ha_z4 : z4 = na 17 p0.toNatClampNeg := ez4; have hn_z4 : z4.toInt = (na 17 p0.toNatClampNeg).toInt := (by rw [ha_z4])
    refine lv_if_lt (tgt := 33) S.x S.b d_Mpg_checkReturn_26 (by decide) (fun c5 => ?_) (fun c5 => ?_)
    · have nc5 : z4.toInt < (0 : Int) := (i_lt (x := z4) (y := 0)).mp c5
      refine lv_iconst (v := 0) S.x S.b d_Mpg_checkReturn_33 (by decide) ?_
      refine lv_icmp_ne (tgt := 49) S.x S.b d_Mpg_checkReturn_34 (by decide) (fun c7 => ?_) (fun c7 => ?_)
      · exact absurd c7 (by decide)
      ·
        refine lv_aload_n S.x S.b d_Mpg_checkReturn_37 rfl (lv_at hl 1 rfl) ?_
        refine lv_bipush (v := 11) S.x S.b d_Mpg_checkReturn_38 (by decide) ?_
        refine lv_aload_n S.x S.b d_Mpg_checkReturn_40 rfl (lv_at hl 1 rfl) ?_
        refine px_get S k_Mpg hT hw 0 0 15 (v := .ref (r 15)) rfl rfl rfl (by decide) m9_239 d_Mpg_checkReturn_41 ?_
        refine lv_iload_n S.x S.b d_Mpg_checkReturn_44 rfl (lv_at hl 2 rfl) ?_
        refine px_iald S hT hw 0 11 (n := 2100) (f := (na 15)) rfl gp_15 (x := p0) (vp_in_iff.mpr (by first | exact oz_a7e05de1cd hsr0.2.2.1 hsr0.2.1 g1 g2 | (constructor <;> omega))) d_Mpg_checkReturn_45 ?_
        refine lv_topi (fun z8 ez8 => ?_)
        have lz8 := Int32.le_toInt z8
        have uz8 := Int32.toInt_lt z8
        have rz8 := ScV.tok hsc_p0 ez8
        refine px_callv (pr := []) (px_runV (As := [.int 11, .int z8]) (rest := []) S (c_mp_bad l D cs h r g tf ta pf na ma wa ca ef ea xf xa cf 11 z8  (show 1 ≤ (11 : Int) from by first | exact oz_6fea180d23 | omega) (show 0 ≤ z8.toInt from by first | exact rz8.1 | omega) (show z8.toInt < (tf 6).toInt from by first | exact oz_7fe81129bf rz8.2 | omega) htk hwr _) hT (pr := []) (pcs := [wdP cs h r g tf ta pf na ma wa cf ca ef ea xf xa]) hw px_X.tt (px_recv hT hw 0 0 rfl rfl rfl) m12_173 m12_170 m12_172 ms_11_12 m1_21 q_Mpg_bad ⟨show 0 + 1 ≤ (6 * d + 27) from (by first | exact oz_d1d6e9fd93 | omega), show 8 + (3 + 11) + 0 ≤ (260 * d + 940) from (by first | exact oz_bb12660973 | omega)⟩ hl.1 rfl (Nat.le_of_ble_eq_true rfl) d_Mpg_checkReturn_46 ⟨Nat.le_of_ble_eq_true rfl, Nat.le_of_ble_eq_true rfl⟩) hw hA (fun p11 H locs hp11 hw => ?_)
        obtain ⟨cf10, rfl, e13, e14, e15, e16, e17, e18, e19, e20, e21, e22, e23, e24, e25, e26, e27, e28, e29, e30, e31, e32⟩ := hp11
        have e13 : KpE cf cf10 := e13
        have hkz_e13 := e13.2
        have e14 : WrV cf10 (tf 6).toInt := e14
        have hwr := e14
        have hw0_e14 := hwr.1
        have e15 : 1 ≤ (cf10 30).toInt := e15
        have e16 : (cf10 33).toInt = (cf 33).toInt := e16
        have e17 : (cf10 38).toInt = (cf 38).toInt := e17
        have e18 : (cf10 48).toInt = (cf 48).toInt := e18
        have e19 : (cf10 46).toInt = (cf 46).toInt := e19
        have e20 : (cf10 47).toInt = (cf 47).toInt := e20
        have e21 : (cf10 57).toInt = (cf 57).toInt := e21
        have e22 : (cf10 37).toInt = (cf 37).toInt := e22
        have e23 : (cf10 42).toInt = (cf 42).toInt := e23
        have e24 : (cf10 43).toInt = (cf 43).toInt := e24
        have e25 : (cf10 44).toInt = (cf 44).toInt := e25
        have e26 : (cf10 45).toInt = (cf 45).toInt := e26
        have e27 : (cf10 54).toInt = (cf 54).toInt := e27
        have e28 : (cf10 55).toInt = (cf 55).toInt := e28
        have e29 : (cf10 58).toInt = (cf 58).toInt := e29
        have e30 : (cf10 59).toInt = (cf 59).toInt := e30
        have e31 : (cf10 41).toInt = (cf 41).toInt := e31
        have e32 : R_mp_bad (11 : Int32) z8 cf cf10 := e32
        have hw : pw D A s.heap H locs [wdP cs h r g tf ta pf na ma wa cf10 ca ef ea xf xa] := hw
        refine lv_aload_n S.x S.b d_Mpg_checkReturn_49 rfl (lv_at hl 1 rfl) ?_
        refine px_get S k_Mpg hT hw 0 0 17 (v := .ref (r 17)) rfl rfl rfl (by decide) m10_1 d_Mpg_checkReturn_50 ?_
        refine lv_iload_n S.x S.b d_Mpg_checkReturn_53 rfl (lv_at hl 2 rfl) ?_
        refine px_iald S hT hw 0 13 (n := 2100) (f := (na 17)) rfl gp_17 (x := p0) (vp_in_iff.mpr (by first | exact oz_a7e05de1cd hsr0.2.2.1 hsr0.2.1 g1 g2 | (constructor <;> omega))) d_Mpg_checkReturn_54 ?_
        refine lv_topi (fun z33 ez33 => ?_)
        have lz33 := Int32.le_toInt z33
        have uz33 := Int32.toInt_lt z33
        have ha_z33 : z33 = na 17 p0.toNatClampNeg := ez33; have hn_z33 : z33.toInt = (na 17 p0.toNatClampNeg).toInt := (by rw [ha_z33])
        refine lv_if_lt (tgt := 70) S.x S.b d_Mpg_checkReturn_55 (by decide) (fun c34 => ?_) (fun c34 => ?_)
        · have nc34 : z33.toInt < (0 : Int) := (i_lt (x := z33) (y := 0)).mp c34
          exact px_vret S hr hlk hAe hw (Nat.le_of_ble_eq_true rfl) (Nat.le_of_ble_eq_true rfl) (⟨ma, cf10, ca, rfl, (show (cf10 30).toInt = 0 → (cf 30).toInt = 0 from by first | exact hkz_e13 | omega), (show WrV cf10 (tf 6).toInt from hwr), (show (cf10 37).toInt = (cf 37).toInt from by first | exact e22 | omega), (show (cf10 38).toInt = (cf 38).toInt from by first | exact e17 | omega), (show (cf10 43).toInt = (cf 43).toInt from by first | exact e24 | omega), (show (cf10 44).toInt = (cf 44).toInt from by first | exact e25 | omega), (show (cf10 45).toInt = (cf 45).toInt from by first | exact e26 | omega), (show (cf10 46).toInt = (cf 46).toInt from by first | exact e19 | omega), (show (cf10 47).toInt = (cf 47).toInt from by first | exact e20 | omega), (show (cf10 41).toInt = (cf 41).toInt from by first | exact e31 | omega), (show (cf10 55).toInt = (cf 55).toInt from by first | exact e28 | omega), (show (cf10 59).toInt = (cf 59).toInt from by first | exact e30 | omega), (show (cf10 33).toInt = (cf 33).toInt from by first | exact e16 | omega), (show (cf 48).toInt ≤ (cf10 48).toInt from by first | exact oz_f9b42d1b56 e18 | omega), (show 6 * (cf10 48).toInt ≤ 6 * (cf 48).toInt + (w) from by first | exact oz_092373726c g5 e18 | omega), (show (cf 54).toInt ≤ (cf10 54).toInt from by first | exact oz_f9b42d1b56 e27 | omega), (show (cf 42).toInt ≤ (cf10 42).toInt from by first | exact oz_f9b42d1b56 e23 | omega), (show (cf10 54).toInt - (cf 54).toInt ≤ 4 * ((cf10 42).toInt - (cf 42).toInt) from by first | exact oz_7f23dbcb5f e23 e27 | omega), (show (cf10 54).toInt - (cf 54).toInt ≤ 4096 * ((cf10 48).toInt - (cf 48).toInt) from by first | exact oz_a2be20d97d e18 e27 | omega), (show (cf10 42).toInt - (cf 42).toInt ≤ 4096 * ((cf10 48).toInt - (cf 48).toInt) from by first | exact oz_a2be20d97d e18 e23 | omega), (show KnT (tf 6).toInt ca (cf10 33).toInt from (KnT.eq hkt (by omega))), (show KnS ca (cf10 33).toInt (cf10 48).toInt ys from (KnS.eq hks (by omega) (by omega))), (show CaG ca ca (cf 33).toInt (cf 48).toInt from (hcg.le (by omega) (by omega))), (show SyR ca ys (cf10 48).toInt (cf10 54).toInt tx from (SyR.eq hsr (by omega) (by omega))), (show Ann na ma0 ma from han), (show FrC lo hi ma ma from hfc), (show ZTe cf10 ta ca na ma0 (cf10 48).toInt ys nf ma lo hi p0 (tgv (cf 44).toInt (cf 45).toInt) from (zr_no (by omega))), (show R_mp_checkReturn (RL_mp_checkStatement d) tf ta na p0 ma cf ca ma cf10 ca from (Or.inl ⟨z1, ez1, Or.inl ⟨nc2, z4, ez4, Or.inl ⟨nc5, z8, ez8, cf10, e32, z33, ez33, Or.inl ⟨nc34, rfl, rfl, rfl⟩⟩⟩⟩))⟩) d_Mpg_checkReturn_70
        · have nc34 : ¬ z33.toInt < (0 : Int) := mt (i_lt (x := z33) (y := 0)).mpr c34
          refine lv_aload_n S.x S.b d_Mpg_checkReturn_58 rfl (lv_at hl 1 rfl) ?_
          refine lv_aload_n S.x S.b d_Mpg_checkReturn_59 rfl (lv_at hl 1 rfl) ?_
          refine px_get S k_Mpg hT hw 0 0 17 (v := .ref (r 17)) rfl rfl rfl (by decide) m10_1 d_Mpg_checkReturn_60 ?_
          refine lv_iload_n S.x S.b d_Mpg_checkReturn_63 rfl (lv_at hl 2 rfl) ?_
          refine px_iald S hT hw 0 13 (n := 2100) (f := (na 17)) rfl gp_17 (x := p0) (vp_in_iff.mpr (by first | exact oz_a7e05de1cd hsr0.2.2.1 hsr0.2.1 g1 g2 | (constructor <;> omega))) d_Mpg_checkReturn_64 ?_
          refine lv_topi (fun z36 ez36 => ?_)
          have lz36 := Int32.le_toInt z36
          have uz36 := Int32.toInt_lt z36
          have ha_z36 : z36 = na 17 p0.toNatClampNeg := ez36; have hn_z36 : z36.toInt = (na 17 p0.toNatClampNeg).toInt := (by rw [ha_z36]); have hev_z36 : ErV ta (tf 6).toInt na ma0 d (p0.toInt + 1) hi (w - 2) z36 := (by rw [ha_z36]; exact hoc.get (by omega)); obtain ⟨hec_z36, h20_z36, hw_z36⟩ := hev_z36.ec; have hrg_z36 := EcV.rng hec_z36
          refine lv_iconst (v := 1) S.x S.b d_Mpg_checkReturn_65 (by decide) ?_
          refine px_calli (pr := []) (px_runV (As := [.int z36, .int 1]) (rest := []) S (c_S_check l D cs ma0 ys (cf10 48).toInt nf (cf10 33).toInt d (p0.toInt + 1) hi h r g tf ta pf na wa ca ef ea xf xa ma cf10 z36 1  (show 0 ≤ (p0.toInt + 1) from by first | exact oz_c12c169b81 hsr0.2.2.1 | omega) (show hi ≤ (pf 13).toInt from by first | exact g1 | omega) (show (pf 13).toInt ≤ 2100 from by first | exact g2 | omega) (show (tf 6).toInt ≤ 2049 from by first | exact g3 | omega) (show (cf10 33).toInt = (cf10 33).toInt from rfl) (show 0 ≤ (cf10 33).toInt from by first | exact oz_f3ebed1ad0 e16 g4 | omega) (show (cf10 48).toInt = (cf10 48).toInt from rfl) (show (cf10 38).toInt = nf from by first | exact oz_1687f4cc65 g9 e17 | omega) (show 0 ≤ nf from by first | exact g10 | omega) (show 0 ≤ (1 : Int) from by first | exact oz_19c3a41681 | omega) (show (1 : Int) ≤ 1 from by first | exact oz_f9181dc4bb | omega) htk (FsI.le (N' := (pf 13).toInt) hfs (by omega)) hwr (KnT.eq hkt (by omega)) (FnT.eq hft (by omega)) (KnS.eq hks (by omega) (by omega)) hfp han hec_z36 _) hT (pr := []) (pcs := [wdP cs h r g tf ta pf na ma wa cf10 ca ef ea xf xa]) hw (oX_call (P := (fun A U H => (oP A g U H))) (pr := []) oG_P hw hA hP) (px_recv hT hw 0 0 rfl rfl rfl) m12_217 m12_214 m12_216 ms_12_7 m1_21 q_Mpg_check ⟨show (4 * d + 12) + 1 ≤ (6 * d + 27) from (by first | exact oz_fb996a10c4 | omega), show 8 + (8 + 11) + (200 * d + 420) ≤ (260 * d + 940) from (by first | exact oz_d6614ca526 | omega)⟩ hl.1 rfl (Nat.le_of_ble_eq_true rfl) d_Mpg_checkReturn_66 ⟨Nat.le_of_ble_eq_true rfl, Nat.le_of_ble_eq_true rfl⟩) hw hA (fun v42 p41 H locs hp41 hw => ?_)
          obtain ⟨ma39, cf40, rfl, e43, e44, e45, e46, e47, e48, e49, e50, e51, e52, e53, e54, e55, e56, e57, e58⟩ := hp41
          have e43 : KpE cf10 cf40 := e43
          have hkz_e43 := e43.2
          have hkk37_e43 : (cf40 37).toInt = (cf10 37).toInt := (by rw [e43.1 37 (by decide) (by decide) (by decide) (by decide) (by decide)] <;> rfl)
          have hkk43_e43 : (cf40 43).toInt = (cf10 43).toInt := (by rw [e43.1 43 (by decide) (by decide) (by decide) (by decide) (by decide)] <;> rfl)
          have hkk44_e43 : (cf40 44).toInt = (cf10 44).toInt := (by rw [e43.1 44 (by decide) (by decide) (by decide) (by decide) (by decide)] <;> rfl)
          have hkk45_e43 : (cf40 45).toInt = (cf10 45).toInt := (by rw [e43.1 45 (by decide) (by decide) (by decide) (by decide) (by decide)] <;> rfl)
          have hkk41_e43 : (cf40 41).toInt = (cf10 41).toInt := (by rw [e43.1 41 (by decide) (by decide) (by decide) (by decide) (by decide)] <;> rfl)
          have hkk55_e43 : (cf40 55).toInt = (cf10 55).toInt := (by rw [e43.1 55 (by decide) (by decide) (by decide) (by decide) (by decide)] <;> rfl)
          have hkk59_e43 : (cf40 59).toInt = (cf10 59).toInt := (by rw [e43.1 59 (by decide) (by decide) (by decide) (by decide) (by decide)] <;> rfl)
          have hkk42_e43 : (cf40 42).toInt = (cf10 42).toInt := (by rw [e43.1 42 (by decide) (by decide) (by decide) (by decide) (by decide)] <;> rfl)
          have hkk54_e43 : (cf40 54).toInt = (cf10 54).toInt := (by rw [e43.1 54 (by decide) (by decide) (by decide) (by decide) (by decide)] <;> rfl)
          have hkk58_e43 : (cf40 58).toInt = (cf10 58).toInt := (by rw [e43.1 58 (by decide) (by decide) (by decide) (by decide) (by decide)] <;> rfl)
          have e44 : WrV cf40 (tf 6).toInt := e44
          have hwr := e44
          have hw0_e44 := hwr.1
          have e45 : (cf40 33).toInt = (cf10 33).toInt := e45
          have e46 : (cf40 38).toInt = (cf10 38).toInt := e46
          have e47 : (cf40 48).toInt = (cf10 48).toInt := e47
          have e48 : (cf40 46).toInt = (cf10 46).toInt := e48
          have e49 : (cf40 47).toInt = (cf10 47).toInt := e49
          have e50 : (cf40 57).toInt = (cf10 57).toInt := e50
          have e51 : Ann na ma0 ma39 := e51
          have han := e51
          have e52 : FrC (p0.toInt + 1) hi ma ma39 := e52
          have hfc := hfc.tr e52 (by omega) (by omega)
          have e53 : 0 ≤ v42.toInt := e53
          have e54 : v42.toInt ≤ 4 := e54
          have e55 : NmJ ta ca na ma39 (cf10 33).toInt z36 v42.toInt := e55
          have e56 : ZTy cf40 (Gk ta ca na ma0 (cf10 48).toInt ys nf) na ma39 (p0.toInt + 1) hi z36 v42.toInt := e56
          have e57 : ZNm cf40 (1 : Int) v42.toInt := e57
          have hty_z36 : ZTe cf40 ta ca na ma0 (cf40 48).toInt ys nf ma39 (p0.toInt + 1) hi z36 0 := ZTe.to (t := 0) (ZTy.num e56 e57) (fun q => by omega) (by omega) (Int.le_refl _) (Int.le_refl _) rfl
          have e58 : RL_mp_check d tf ta na ca z36 (1 : Int32) ma cf10 ma39 cf40 v42 := e58
          have e58X : RX_mp_check tf ta na ca z36 (1 : Int32) ma cf10 ma39 cf40 v42 := ⟨d, e58⟩
          have hw : pw D A s.heap H locs [wdP cs h r g tf ta pf na ma39 wa cf40 ca ef ea xf xa] := hw
          have lv42 := Int32.le_toInt v42
          have uv42 := Int32.toInt_lt v42
          refine lv_pop S.x S.b d_Mpg_checkReturn_69 rfl ?_
          exact px_vret S hr hlk hAe hw (Nat.le_of_ble_eq_true rfl) (Nat.le_of_ble_eq_true rfl) (⟨ma39, cf40, ca, rfl, (show (cf40 30).toInt = 0 → (cf 30).toInt = 0 from by omega), (show WrV cf40 (tf 6).toInt from hwr), (show (cf40 37).toInt = (cf 37).toInt from by first | exact oz_1687f4cc65 e22 hkk37_e43 | omega), (show (cf40 38).toInt = (cf 38).toInt from by first | exact oz_1687f4cc65 e17 e46 | omega), (show (cf40 43).toInt = (cf 43).toInt from by first | exact oz_1687f4cc65 e24 hkk43_e43 | omega), (show (cf40 44).toInt = (cf 44).toInt from by first | exact oz_1687f4cc65 e25 hkk44_e43 | omega), (show (cf40 45).toInt = (cf 45).toInt from by first | exact oz_1687f4cc65 e26 hkk45_e43 | omega), (show (cf40 46).toInt = (cf 46).toInt from by first | exact oz_1687f4cc65 e19 e48 | omega), (show (cf40 47).toInt = (cf 47).toInt from by first | exact oz_1687f4cc65 e20 e49 | omega), (show (cf40 41).toInt = (cf 41).toInt from by first | exact oz_1687f4cc65 e31 hkk41_e43 | omega), (show (cf40 55).toInt = (cf 55).toInt from by first | exact oz_1687f4cc65 e28 hkk55_e43 | omega), (show (cf40 59).toInt = (cf 59).toInt from by first | exact oz_1687f4cc65 e30 hkk59_e43 | omega), (show (cf40 33).toInt = (cf 33).toInt from by first | exact oz_1687f4cc65 e16 e45 | omega), (show (cf 48).toInt ≤ (cf40 48).toInt from by first | exact oz_d01699e821 e18 e47 | omega), (show 6 * (cf40 48).toInt ≤ 6 * (cf 48).toInt + (w) from by first | exact oz_48fba83842 g5 e18 e47 | omega), (show (cf 54).toInt ≤ (cf40 54).toInt from by first | exact oz_d01699e821 e27 hkk54_e43 | omega), (show (cf 42).toInt ≤ (cf40 42).toInt from by first | exact oz_d01699e821 e23 hkk42_e43 | omega), (show (cf40 54).toInt - (cf 54).toInt ≤ 4 * ((cf40 42).toInt - (cf 42).toInt) from by first | exact oz_609cf4b982 e23 e27 hkk42_e43 hkk54_e43 | omega), (show (cf40 54).toInt - (cf 54).toInt ≤ 4096 * ((cf40 48).toInt - (cf 48).toInt) from by first | exact oz_9a318b6183 e18 e27 e47 hkk54_e43 | omega), (show (cf40 42).toInt - (cf 42).toInt ≤ 4096 * ((cf40 48).toInt - (cf 48).toInt) from by first | exact oz_9a318b6183 e18 e23 e47 hkk42_e43 | omega), (show KnT (tf 6).toInt ca (cf40 33).toInt from (KnT.eq hkt (by omega))), (show KnS ca (cf40 33).toInt (cf40 48).toInt ys from (KnS.eq hks (by omega) (by omega))), (show CaG ca ca (cf 33).toInt (cf 48).toInt from (hcg.le (by omega) (by omega))), (show SyR ca ys (cf40 48).toInt (cf40 54).toInt tx from (SyR.eq hsr (by omega) (by omega))), (show Ann na ma0 ma39 from han), (show FrC lo hi ma ma39 from hfc), (show ZTe cf40 ta ca na ma0 (cf40 48).toInt ys nf ma39 lo hi p0 (tgv (cf 44).toInt (cf 45).toInt) from (fun zz => by exact tys_33 ⟨by omega, by omega, by omega⟩ tgv_rng (by omega) ha_z36 (ZTe.ot hty_z36 (by omega) (by omega) (by omega) (by omega) rfl))), (show R_mp_checkReturn (RL_mp_checkStatement d) tf ta na p0 ma cf ca ma39 cf40 ca from (Or.inl ⟨z1, ez1, Or.inl ⟨nc2, z4, ez4, Or.inl ⟨nc5, z8, ez8, cf10, e32, z33, ez33, Or.inr ⟨nc34, z36, ez36, ma39, cf40, v42, e58X, rfl, rfl, rfl⟩⟩⟩⟩))⟩) d_Mpg_checkReturn_70
    · have nc5 : ¬ z4.toInt < (0 : Int) := mt (i_lt (x := z4) (y := 0)).mpr c5
      refine lv_iconst (v := 1) S.x S.b d_Mpg_checkReturn_29 (by decide) ?_
      refine lv_goto (tgt := 34) S.x S.b d_Mpg_checkReturn_30 (by decide) ?_
      refine lv_icmp_ne (tgt := 49) S.x S.b d_Mpg_checkReturn_34 (by decide) (fun c59 => ?_) (fun c59 => ?_)
      ·
        refine lv_aload_n S.x S.b d_Mpg_checkReturn_49 rfl (lv_at hl 1 rfl) ?_
        refine px_get S k_Mpg hT hw 0 0 17 (v := .ref (r 17)) rfl rfl rfl (by decide) m10_1 d_Mpg_checkReturn_50 ?_
        refine lv_iload_n S.x S.b d_Mpg_checkReturn_53 rfl (lv_at hl 2 rfl) ?_
        refine px_iald S hT hw 0 13 (n := 2100) (f := (na 17)) rfl gp_17 (x := p0) (vp_in_iff.mpr (by first | exact oz_a7e05de1cd hsr0.2.2.1 hsr0.2.1 g1 g2 | (constructor <;> omega))) d_Mpg_checkReturn_54 ?_
        refine lv_topi (fun z60 ez60 => ?_)
        have lz60 := Int32.le_toInt z60
        have uz60 := Int32.toInt_lt z60
        have ha_z60 : z60 = na 17 p0.toNatClampNeg := ez60; have hn_z60 : z60.toInt = (na 17 p0.toNatClampNeg).toInt := (by rw [ha_z60])
        refine lv_if_lt (tgt := 70) S.x S.b d_Mpg_checkReturn_55 (by decide) (fun c61 => ?_) (fun c61 => ?_)
        · have nc61 : z60.toInt < (0 : Int) := (i_lt (x := z60) (y := 0)).mp c61
          exact px_vret S hr hlk hAe hw (Nat.le_of_ble_eq_true rfl) (Nat.le_of_ble_eq_true rfl) (⟨ma, cf, ca, rfl, (show (cf 30).toInt = 0 → (cf 30).toInt = 0 from by first | exact fun q9 => q9 | omega), (show WrV cf (tf 6).toInt from hwr), (show (cf 37).toInt = (cf 37).toInt from rfl), (show (cf 38).toInt = (cf 38).toInt from rfl), (show (cf 43).toInt = (cf 43).toInt from rfl), (show (cf 44).toInt = (cf 44).toInt from rfl), (show (cf 45).toInt = (cf 45).toInt from rfl), (show (cf 46).toInt = (cf 46).toInt from rfl), (show (cf 47).toInt = (cf 47).toInt from rfl), (show (cf 41).toInt = (cf 41).toInt from rfl), (show (cf 55).toInt = (cf 55).toInt from rfl), (show (cf 59).toInt = (cf 59).toInt from rfl), (show (cf 33).toInt = (cf 33).toInt from rfl), (show (cf 48).toInt ≤ (cf 48).toInt from by first | exact oz_1cb5f934a5 | omega), (show 6 * (cf 48).toInt ≤ 6 * (cf 48).toInt + (w) from by first | exact oz_5a408f7934 g5 | omega), (show (cf 54).toInt ≤ (cf 54).toInt from by first | exact oz_1cb5f934a5 | omega), (show (cf 42).toInt ≤ (cf 42).toInt from by first | exact oz_1cb5f934a5 | omega), (show (cf 54).toInt - (cf 54).toInt ≤ 4 * ((cf 42).toInt - (cf 42).toInt) from by first | exact oz_a1153f1990 | omega), (show (cf 54).toInt - (cf 54).toInt ≤ 4096 * ((cf 48).toInt - (cf 48).toInt) from by first | exact oz_f4137ca117 | omega), (show (cf 42).toInt - (cf 42).toInt ≤ 4096 * ((cf 48).toInt - (cf 48).toInt) from by first | exact oz_f4137ca117 | omega), (show KnT (tf 6).toInt ca (cf 33).toInt from (KnT.eq hkt (by omega))), (show KnS ca (cf 33).toInt (cf 48).toInt ys from (KnS.eq hks (by omega) (by omega))), (show CaG ca ca (cf 33).toInt (cf 48).toInt from (hcg.le (by omega) (by omega))), (show SyR ca ys (cf 48).toInt (cf 54).toInt tx from (SyR.eq hsr (by omega) (by omega))), (show Ann na ma0 ma from han), (show FrC lo hi ma ma from hfc), (show ZTe cf ta ca na ma0 (cf 48).toInt ys nf ma lo hi p0 (tgv (cf 44).toInt (cf 45).toInt) from (fun zz => by exact tys_33 ⟨by omega, by omega, by omega⟩ tgv_rng (by omega) ha_z60 (Or.inl (by omega)))), (show R_mp_checkReturn (RL_mp_checkStatement d) tf ta na p0 ma cf ca ma cf ca from (Or.inl ⟨z1, ez1, Or.inl ⟨nc2, z4, ez4, Or.inr ⟨nc5, z60, ez60, Or.inl ⟨nc61, rfl, rfl, rfl⟩⟩⟩⟩))⟩) d_Mpg_checkReturn_70
        · have nc61 : ¬ z60.toInt < (0 : Int) := mt (i_lt (x := z60) (y := 0)).mpr c61
          refine lv_aload_n S.x S.b d_Mpg_checkReturn_58 rfl (lv_at hl 1 rfl) ?_
          refine lv_aload_n S.x S.b d_Mpg_checkReturn_59 rfl (lv_at hl 1 rfl) ?_
          refine px_get S k_Mpg hT hw 0 0 17 (v := .ref (r 17)) rfl rfl rfl (by decide) m10_1 d_Mpg_checkReturn_60 ?_
          refine lv_iload_n S.x S.b d_Mpg_checkReturn_63 rfl (lv_at hl 2 rfl) ?_
          refine px_iald S hT hw 0 13 (n := 2100) (f := (na 17)) rfl gp_17 (x := p0) (vp_in_iff.mpr (by first | exact oz_a7e05de1cd hsr0.2.2.1 hsr0.2.1 g1 g2 | (constructor <;> omega))) d_Mpg_checkReturn_64 ?_
          refine lv_topi (fun z63 ez63 => ?_)
          have lz63 := Int32.le_toInt z63
          have uz63 := Int32.toInt_lt z63
          have ha_z63 : z63 = na 17 p0.toNatClampNeg := ez63; have hn_z63 : z63.toInt = (na 17 p0.toNatClampNeg).toInt := (by rw [ha_z63]); have hev_z63 : ErV ta (tf 6).toInt na ma0 d (p0.toInt + 1) hi (w - 2) z63 := (by rw [ha_z63]; exact hoc.get (by omega)); obtain ⟨hec_z63, h20_z63, hw_z63⟩ := hev_z63.ec; have hrg_z63 := EcV.rng hec_z63
          refine lv_iconst (v := 1) S.x S.b d_Mpg_checkReturn_65 (by decide) ?_
          refine px_calli (pr := []) (px_runV (As := [.int z63, .int 1]) (rest := []) S (c_S_check l D cs ma0 ys (cf 48).toInt nf (cf 33).toInt d (p0.toInt + 1) hi h r g tf ta pf na wa ca ef ea xf xa ma cf z63 1  (show 0 ≤ (p0.toInt + 1) from by first | exact oz_c12c169b81 hsr0.2.2.1 | omega) (show hi ≤ (pf 13).toInt from by first | exact g1 | omega) (show (pf 13).toInt ≤ 2100 from by first | exact g2 | omega) (show (tf 6).toInt ≤ 2049 from by first | exact g3 | omega) (show (cf 33).toInt = (cf 33).toInt from rfl) (show 0 ≤ (cf 33).toInt from by first | exact g4 | omega) (show (cf 48).toInt = (cf 48).toInt from rfl) (show (cf 38).toInt = nf from by first | exact g9 | omega) (show 0 ≤ nf from by first | exact g10 | omega) (show 0 ≤ (1 : Int) from by first | exact oz_19c3a41681 | omega) (show (1 : Int) ≤ 1 from by first | exact oz_f9181dc4bb | omega) htk (FsI.le (N' := (pf 13).toInt) hfs (by omega)) hwr (KnT.eq hkt (by omega)) (FnT.eq hft (by omega)) (KnS.eq hks (by omega) (by omega)) hfp han hec_z63 _) hT (pr := []) (pcs := [wdP cs h r g tf ta pf na ma wa cf ca ef ea xf xa]) hw (oX_call (P := (fun A U H => (oP A g U H))) (pr := []) oG_P hw hA hP) (px_recv hT hw 0 0 rfl rfl rfl) m12_217 m12_214 m12_216 ms_12_7 m1_21 q_Mpg_check ⟨show (4 * d + 12) + 1 ≤ (6 * d + 27) from (by first | exact oz_fb996a10c4 | omega), show 8 + (8 + 11) + (200 * d + 420) ≤ (260 * d + 940) from (by first | exact oz_d6614ca526 | omega)⟩ hl.1 rfl (Nat.le_of_ble_eq_true rfl) d_Mpg_checkReturn_66 ⟨Nat.le_of_ble_eq_true rfl, Nat.le_of_ble_eq_true rfl⟩) hw hA (fun v69 p68 H locs hp68 hw => ?_)
          obtain ⟨ma66, cf67, rfl, e70, e71, e72, e73, e74, e75, e76, e77, e78, e79, e80, e81, e82, e83, e84, e85⟩ := hp68
          have e70 : KpE cf cf67 := e70
          have hkz_e70 := e70.2
          have hkk37_e70 : (cf67 37).toInt = (cf 37).toInt := (by rw [e70.1 37 (by decide) (by decide) (by decide) (by decide) (by decide)] <;> rfl)
          have hkk43_e70 : (cf67 43).toInt = (cf 43).toInt := (by rw [e70.1 43 (by decide) (by decide) (by decide) (by decide) (by decide)] <;> rfl)
          have hkk44_e70 : (cf67 44).toInt = (cf 44).toInt := (by rw [e70.1 44 (by decide) (by decide) (by decide) (by decide) (by decide)] <;> rfl)
          have hkk45_e70 : (cf67 45).toInt = (cf 45).toInt := (by rw [e70.1 45 (by decide) (by decide) (by decide) (by decide) (by decide)] <;> rfl)
          have hkk41_e70 : (cf67 41).toInt = (cf 41).toInt := (by rw [e70.1 41 (by decide) (by decide) (by decide) (by decide) (by decide)] <;> rfl)
          have hkk55_e70 : (cf67 55).toInt = (cf 55).toInt := (by rw [e70.1 55 (by decide) (by decide) (by decide) (by decide) (by decide)] <;> rfl)
          have hkk59_e70 : (cf67 59).toInt = (cf 59).toInt := (by rw [e70.1 59 (by decide) (by decide) (by decide) (by decide) (by decide)] <;> rfl)
          have hkk42_e70 : (cf67 42).toInt = (cf 42).toInt := (by rw [e70.1 42 (by decide) (by decide) (by decide) (by decide) (by decide)] <;> rfl)
          have hkk54_e70 : (cf67 54).toInt = (cf 54).toInt := (by rw [e70.1 54 (by decide) (by decide) (by decide) (by decide) (by decide)] <;> rfl)
          have hkk58_e70 : (cf67 58).toInt = (cf 58).toInt := (by rw [e70.1 58 (by decide) (by decide) (by decide) (by decide) (by decide)] <;> rfl)
          have e71 : WrV cf67 (tf 6).toInt := e71
          have hwr := e71
          have hw0_e71 := hwr.1
          have e72 : (cf67 33).toInt = (cf 33).toInt := e72
          have e73 : (cf67 38).toInt = (cf 38).toInt := e73
          have e74 : (cf67 48).toInt = (cf 48).toInt := e74
          have e75 : (cf67 46).toInt = (cf 46).toInt := e75
          have e76 : (cf67 47).toInt = (cf 47).toInt := e76
          have e77 : (cf67 57).toInt = (cf 57).toInt := e77
          have e78 : Ann na ma0 ma66 := e78
          have han := e78
          have e79 : FrC (p0.toInt + 1) hi ma ma66 := e79
          have hfc := hfc.tr e79 (by omega) (by omega)
          have e80 : 0 ≤ v69.toInt := e80
          have e81 : v69.toInt ≤ 4 := e81
          have e82 : NmJ ta ca na ma66 (cf 33).toInt z63 v69.toInt := e82
          have e83 : ZTy cf67 (Gk ta ca na ma0 (cf 48).toInt ys nf) na ma66 (p0.toInt + 1) hi z63 v69.toInt := e83
          have e84 : ZNm cf67 (1 : Int) v69.toInt := e84
          have hty_z63 : ZTe cf67 ta ca na ma0 (cf67 48).toInt ys nf ma66 (p0.toInt + 1) hi z63 0 := ZTe.to (t := 0) (ZTy.num e83 e84) (fun q => by omega) (by omega) (Int.le_refl _) (Int.le_refl _) rfl
          have e85 : RL_mp_check d tf ta na ca z63 (1 : Int32) ma cf ma66 cf67 v69 := e85
          have e85X : RX_mp_check tf ta na ca z63 (1 : Int32) ma cf ma66 cf67 v69 := ⟨d, e85⟩
          have hw : pw D A s.heap H locs [wdP cs h r g tf ta pf na ma66 wa cf67 ca ef ea xf xa] := hw
          have lv69 := Int32.le_toInt v69
          have uv69 := Int32.toInt_lt v69
          refine lv_pop S.x S.b d_Mpg_checkReturn_69 rfl ?_
          exact px_vret S hr hlk hAe hw (Nat.le_of_ble_eq_true rfl) (Nat.le_of_ble_eq_true rfl) (⟨ma66, cf67, ca, rfl, (show (cf67 30).toInt = 0 → (cf 30).toInt = 0 from by first | exact hkz_e70 | omega), (show WrV cf67 (tf 6).toInt from hwr), (show (cf67 37).toInt = (cf 37).toInt from by first | exact hkk37_e70 | omega), (show (cf67 38).toInt = (cf 38).toInt from by first | exact e73 | omega), (show (cf67 43).toInt = (cf 43).toInt from by first | exact hkk43_e70 | omega), (show (cf67 44).toInt = (cf 44).toInt from by first | exact hkk44_e70 | omega), (show (cf67 45).toInt = (cf 45).toInt from by first | exact hkk45_e70 | omega), (show (cf67 46).toInt = (cf 46).toInt from by first | exact e75 | omega), (show (cf67 47).toInt = (cf 47).toInt from by first | exact e76 | omega), (show (cf67 41).toInt = (cf 41).toInt from by first | exact hkk41_e70 | omega), (show (cf67 55).toInt = (cf 55).toInt from by first | exact hkk55_e70 | omega), (show (cf67 59).toInt = (cf 59).toInt from by first | exact hkk59_e70 | omega), (show (cf67 33).toInt = (cf 33).toInt from by first | exact e72 | omega), (show (cf 48).toInt ≤ (cf67 48).toInt from by first | exact oz_f9b42d1b56 e74 | omega), (show 6 * (cf67 48).toInt ≤ 6 * (cf 48).toInt + (w) from by first | exact oz_092373726c g5 e74 | omega), (show (cf 54).toInt ≤ (cf67 54).toInt from by first | exact oz_f9b42d1b56 hkk54_e70 | omega), (show (cf 42).toInt ≤ (cf67 42).toInt from by first | exact oz_f9b42d1b56 hkk42_e70 | omega), (show (cf67 54).toInt - (cf 54).toInt ≤ 4 * ((cf67 42).toInt - (cf 42).toInt) from by first | exact oz_7f23dbcb5f hkk42_e70 hkk54_e70 | omega), (show (cf67 54).toInt - (cf 54).toInt ≤ 4096 * ((cf67 48).toInt - (cf 48).toInt) from by first | exact oz_a2be20d97d e74 hkk54_e70 | omega), (show (cf67 42).toInt - (cf 42).toInt ≤ 4096 * ((cf67 48).toInt - (cf 48).toInt) from by first | exact oz_a2be20d97d e74 hkk42_e70 | omega), (show KnT (tf 6).toInt ca (cf67 33).toInt from (KnT.eq hkt (by omega))), (show KnS ca (cf67 33).toInt (cf67 48).toInt ys from (KnS.eq hks (by omega) (by omega))), (show CaG ca ca (cf 33).toInt (cf 48).toInt from (hcg.le (by omega) (by omega))), (show SyR ca ys (cf67 48).toInt (cf67 54).toInt tx from (SyR.eq hsr (by omega) (by omega))), (show Ann na ma0 ma66 from han), (show FrC lo hi ma ma66 from hfc), (show ZTe cf67 ta ca na ma0 (cf67 48).toInt ys nf ma66 lo hi p0 (tgv (cf 44).toInt (cf 45).toInt) from (fun zz => by exact tys_33 ⟨by omega, by omega, by omega⟩ tgv_rng (by omega) ha_z63 (ZTe.ot hty_z63 (by omega) (by omega) (by omega) (by omega) rfl))), (show R_mp_checkReturn (RL_mp_checkStatement d) tf ta na p0 ma cf ca ma66 cf67 ca from (Or.inl ⟨z1, ez1, Or.inl ⟨nc2, z4, ez4, Or.inr ⟨nc5, z60, ez60, Or.inr ⟨nc61, z63, ez63, ma66, cf67, v69, e85X, rfl, rfl, rfl⟩⟩⟩⟩))⟩) d_Mpg_checkReturn_70
      · exact absurd c59 (by decide)
  · have nc2 : z1.toInt = (2 : Int) := (i_eq (x := z1) (y := 2)).mp c2
    refine lv_iconst (v := 1) S.x S.b d_Mpg_checkReturn_13 (by decide) ?_
    refine lv_goto (tgt := 18) S.x S.b d_Mpg_checkReturn_14 (by decide) ?_
    refine lv_istore_n (lv' := [(2, .int 1), (0, .ref h), (1, .int p0)]) S.x S.b d_Mpg_checkReturn_18 rfl hl (by decide) rfl (fun ls hl => ?_)
    refine lv_iload_n S.x S.b d_Mpg_checkReturn_19 rfl (lv_at hl 0 rfl) ?_
    refine lv_aload_n S.x S.b d_Mpg_checkReturn_20 rfl (lv_at hl 1 rfl) ?_
    refine px_get S k_Mpg hT hw 0 0 17 (v := .ref (r 17)) rfl rfl rfl (by decide) m10_1 d_Mpg_checkReturn_21 ?_
    refine lv_iload_n S.x S.b d_Mpg_checkReturn_24 rfl (lv_at hl 2 rfl) ?_
    refine px_iald S hT hw 0 13 (n := 2100) (f := (na 17)) rfl gp_17 (x := p0) (vp_in_iff.mpr (by first | exact oz_a7e05de1cd hsr0.2.2.1 hsr0.2.1 g1 g2 | (constructor <;> omega))) d_Mpg_checkReturn_25 ?_
    refine lv_topi (fun z86 ez86 => ?_)
    have lz86 := Int32.le_toInt z86
    have uz86 := Int32.toInt_lt z86
    have ha_z86 : z86 = na 17 p0.toNatClampNeg := ez86; have hn_z86 : z86.toInt = (na 17 p0.toNatClampNeg).toInt := (by rw [ha_z86])
    refine lv_if_lt (tgt := 33) S.x S.b d_Mpg_checkReturn_26 (by decide) (fun c87 => ?_) (fun c87 => ?_)
    · have nc87 : z86.toInt < (0 : Int) := (i_lt (x := z86) (y := 0)).mp c87
      refine lv_iconst (v := 0) S.x S.b d_Mpg_checkReturn_33 (by decide) ?_
      refine lv_icmp_ne (tgt := 49) S.x S.b d_Mpg_checkReturn_34 (by decide) (fun c89 => ?_) (fun c89 => ?_)
      ·
        refine lv_aload_n S.x S.b d_Mpg_checkReturn_49 rfl (lv_at hl 1 rfl) ?_
        refine px_get S k_Mpg hT hw 0 0 17 (v := .ref (r 17)) rfl rfl rfl (by decide) m10_1 d_Mpg_checkReturn_50 ?_
        refine lv_iload_n S.x S.b d_Mpg_checkReturn_53 rfl (lv_at hl 2 rfl) ?_
        refine px_iald S hT hw 0 13 (n := 2100) (f := (na 17)) rfl gp_17 (x := p0) (vp_in_iff.mpr (by first | exact oz_a7e05de1cd hsr0.2.2.1 hsr0.2.1 g1 g2 | (constructor <;> omega))) d_Mpg_checkReturn_54 ?_
        refine lv_topi (fun z90 ez90 => ?_)
        have lz90 := Int32.le_toInt z90
        have uz90 := Int32.toInt_lt z90
        have ha_z90 : z90 = na 17 p0.toNatClampNeg := ez90; have hn_z90 : z90.toInt = (na 17 p0.toNatClampNeg).toInt := (by rw [ha_z90])
        refine lv_if_lt (tgt := 70) S.x S.b d_Mpg_checkReturn_55 (by decide) (fun c91 => ?_) (fun c91 => ?_)
        · have nc91 : z90.toInt < (0 : Int) := (i_lt (x := z90) (y := 0)).mp c91
          exact px_vret S hr hlk hAe hw (Nat.le_of_ble_eq_true rfl) (Nat.le_of_ble_eq_true rfl) (⟨ma, cf, ca, rfl, (show (cf 30).toInt = 0 → (cf 30).toInt = 0 from by first | exact fun q9 => q9 | omega), (show WrV cf (tf 6).toInt from hwr), (show (cf 37).toInt = (cf 37).toInt from rfl), (show (cf 38).toInt = (cf 38).toInt from rfl), (show (cf 43).toInt = (cf 43).toInt from rfl), (show (cf 44).toInt = (cf 44).toInt from rfl), (show (cf 45).toInt = (cf 45).toInt from rfl), (show (cf 46).toInt = (cf 46).toInt from rfl), (show (cf 47).toInt = (cf 47).toInt from rfl), (show (cf 41).toInt = (cf 41).toInt from rfl), (show (cf 55).toInt = (cf 55).toInt from rfl), (show (cf 59).toInt = (cf 59).toInt from rfl), (show (cf 33).toInt = (cf 33).toInt from rfl), (show (cf 48).toInt ≤ (cf 48).toInt from by first | exact oz_1cb5f934a5 | omega), (show 6 * (cf 48).toInt ≤ 6 * (cf 48).toInt + (w) from by first | exact oz_5a408f7934 g5 | omega), (show (cf 54).toInt ≤ (cf 54).toInt from by first | exact oz_1cb5f934a5 | omega), (show (cf 42).toInt ≤ (cf 42).toInt from by first | exact oz_1cb5f934a5 | omega), (show (cf 54).toInt - (cf 54).toInt ≤ 4 * ((cf 42).toInt - (cf 42).toInt) from by first | exact oz_a1153f1990 | omega), (show (cf 54).toInt - (cf 54).toInt ≤ 4096 * ((cf 48).toInt - (cf 48).toInt) from by first | exact oz_f4137ca117 | omega), (show (cf 42).toInt - (cf 42).toInt ≤ 4096 * ((cf 48).toInt - (cf 48).toInt) from by first | exact oz_f4137ca117 | omega), (show KnT (tf 6).toInt ca (cf 33).toInt from (KnT.eq hkt (by omega))), (show KnS ca (cf 33).toInt (cf 48).toInt ys from (KnS.eq hks (by omega) (by omega))), (show CaG ca ca (cf 33).toInt (cf 48).toInt from (hcg.le (by omega) (by omega))), (show SyR ca ys (cf 48).toInt (cf 54).toInt tx from (SyR.eq hsr (by omega) (by omega))), (show Ann na ma0 ma from han), (show FrC lo hi ma ma from hfc), (show ZTe cf ta ca na ma0 (cf 48).toInt ys nf ma lo hi p0 (tgv (cf 44).toInt (cf 45).toInt) from (fun zz => by exact tys_33 ⟨by omega, by omega, by omega⟩ tgv_rng (by omega) ha_z90 (Or.inl (by omega)))), (show R_mp_checkReturn (RL_mp_checkStatement d) tf ta na p0 ma cf ca ma cf ca from (Or.inl ⟨z1, ez1, Or.inr ⟨nc2, z86, ez86, Or.inl ⟨nc87, z90, ez90, Or.inl ⟨nc91, rfl, rfl, rfl⟩⟩⟩⟩))⟩) d_Mpg_checkReturn_70
        · have nc91 : ¬ z90.toInt < (0 : Int) := mt (i_lt (x := z90) (y := 0)).mpr c91
          refine lv_aload_n S.x S.b d_Mpg_checkReturn_58 rfl (lv_at hl 1 rfl) ?_
          refine lv_aload_n S.x S.b d_Mpg_checkReturn_59 rfl (lv_at hl 1 rfl) ?_
          refine px_get S k_Mpg hT hw 0 0 17 (v := .ref (r 17)) rfl rfl rfl (by decide) m10_1 d_Mpg_checkReturn_60 ?_
          refine lv_iload_n S.x S.b d_Mpg_checkReturn_63 rfl (lv_at hl 2 rfl) ?_
          refine px_iald S hT hw 0 13 (n := 2100) (f := (na 17)) rfl gp_17 (x := p0) (vp_in_iff.mpr (by first | exact oz_a7e05de1cd hsr0.2.2.1 hsr0.2.1 g1 g2 | (constructor <;> omega))) d_Mpg_checkReturn_64 ?_
          refine lv_topi (fun z93 ez93 => ?_)
          have lz93 := Int32.le_toInt z93
          have uz93 := Int32.toInt_lt z93
          have ha_z93 : z93 = na 17 p0.toNatClampNeg := ez93; have hn_z93 : z93.toInt = (na 17 p0.toNatClampNeg).toInt := (by rw [ha_z93]); have hev_z93 : ErV ta (tf 6).toInt na ma0 d (p0.toInt + 1) hi (w - 2) z93 := (by rw [ha_z93]; exact hoc.get (by omega)); obtain ⟨hec_z93, h20_z93, hw_z93⟩ := hev_z93.ec; have hrg_z93 := EcV.rng hec_z93
          refine lv_iconst (v := 1) S.x S.b d_Mpg_checkReturn_65 (by decide) ?_
          refine px_calli (pr := []) (px_runV (As := [.int z93, .int 1]) (rest := []) S (c_S_check l D cs ma0 ys (cf 48).toInt nf (cf 33).toInt d (p0.toInt + 1) hi h r g tf ta pf na wa ca ef ea xf xa ma cf z93 1  (show 0 ≤ (p0.toInt + 1) from by first | exact oz_c12c169b81 hsr0.2.2.1 | omega) (show hi ≤ (pf 13).toInt from by first | exact g1 | omega) (show (pf 13).toInt ≤ 2100 from by first | exact g2 | omega) (show (tf 6).toInt ≤ 2049 from by first | exact g3 | omega) (show (cf 33).toInt = (cf 33).toInt from rfl) (show 0 ≤ (cf 33).toInt from by first | exact g4 | omega) (show (cf 48).toInt = (cf 48).toInt from rfl) (show (cf 38).toInt = nf from by first | exact g9 | omega) (show 0 ≤ nf from by first | exact g10 | omega) (show 0 ≤ (1 : Int) from by first | exact oz_19c3a41681 | omega) (show (1 : Int) ≤ 1 from by first | exact oz_f9181dc4bb | omega) htk (FsI.le (N' := (pf 13).toInt) hfs (by omega)) hwr (KnT.eq hkt (by omega)) (FnT.eq hft (by omega)) (KnS.eq hks (by omega) (by omega)) hfp han hec_z93 _) hT (pr := []) (pcs := [wdP cs h r g tf ta pf na ma wa cf ca ef ea xf xa]) hw (oX_call (P := (fun A U H => (oP A g U H))) (pr := []) oG_P hw hA hP) (px_recv hT hw 0 0 rfl rfl rfl) m12_217 m12_214 m12_216 ms_12_7 m1_21 q_Mpg_check ⟨show (4 * d + 12) + 1 ≤ (6 * d + 27) from (by first | exact oz_fb996a10c4 | omega), show 8 + (8 + 11) + (200 * d + 420) ≤ (260 * d + 940) from (by first | exact oz_d6614ca526 | omega)⟩ hl.1 rfl (Nat.le_of_ble_eq_true rfl) d_Mpg_checkReturn_66 ⟨Nat.le_of_ble_eq_true rfl, Nat.le_of_ble_eq_true rfl⟩) hw hA (fun v99 p98 H locs hp98 hw => ?_)
          obtain ⟨ma96, cf97, rfl, e100, e101, e102, e103, e104, e105, e106, e107, e108, e109, e110, e111, e112, e113, e114, e115⟩ := hp98
          have e100 : KpE cf cf97 := e100
          have hkz_e100 := e100.2
          have hkk37_e100 : (cf97 37).toInt = (cf 37).toInt := (by rw [e100.1 37 (by decide) (by decide) (by decide) (by decide) (by decide)] <;> rfl)
          have hkk43_e100 : (cf97 43).toInt = (cf 43).toInt := (by rw [e100.1 43 (by decide) (by decide) (by decide) (by decide) (by decide)] <;> rfl)
          have hkk44_e100 : (cf97 44).toInt = (cf 44).toInt := (by rw [e100.1 44 (by decide) (by decide) (by decide) (by decide) (by decide)] <;> rfl)
          have hkk45_e100 : (cf97 45).toInt = (cf 45).toInt := (by rw [e100.1 45 (by decide) (by decide) (by decide) (by decide) (by decide)] <;> rfl)
          have hkk41_e100 : (cf97 41).toInt = (cf 41).toInt := (by rw [e100.1 41 (by decide) (by decide) (by decide) (by decide) (by decide)] <;> rfl)
          have hkk55_e100 : (cf97 55).toInt = (cf 55).toInt := (by rw [e100.1 55 (by decide) (by decide) (by decide) (by decide) (by decide)] <;> rfl)
          have hkk59_e100 : (cf97 59).toInt = (cf 59).toInt := (by rw [e100.1 59 (by decide) (by decide) (by decide) (by decide) (by decide)] <;> rfl)
          have hkk42_e100 : (cf97 42).toInt = (cf 42).toInt := (by rw [e100.1 42 (by decide) (by decide) (by decide) (by decide) (by decide)] <;> rfl)
          have hkk54_e100 : (cf97 54).toInt = (cf 54).toInt := (by rw [e100.1 54 (by decide) (by decide) (by decide) (by decide) (by decide)] <;> rfl)
          have hkk58_e100 : (cf97 58).toInt = (cf 58).toInt := (by rw [e100.1 58 (by decide) (by decide) (by decide) (by decide) (by decide)] <;> rfl)
          have e101 : WrV cf97 (tf 6).toInt := e101
          have hwr := e101
          have hw0_e101 := hwr.1
          have e102 : (cf97 33).toInt = (cf 33).toInt := e102
          have e103 : (cf97 38).toInt = (cf 38).toInt := e103
          have e104 : (cf97 48).toInt = (cf 48).toInt := e104
          have e105 : (cf97 46).toInt = (cf 46).toInt := e105
          have e106 : (cf97 47).toInt = (cf 47).toInt := e106
          have e107 : (cf97 57).toInt = (cf 57).toInt := e107
          have e108 : Ann na ma0 ma96 := e108
          have han := e108
          have e109 : FrC (p0.toInt + 1) hi ma ma96 := e109
          have hfc := hfc.tr e109 (by omega) (by omega)
          have e110 : 0 ≤ v99.toInt := e110
          have e111 : v99.toInt ≤ 4 := e111
          have e112 : NmJ ta ca na ma96 (cf 33).toInt z93 v99.toInt := e112
          have e113 : ZTy cf97 (Gk ta ca na ma0 (cf 48).toInt ys nf) na ma96 (p0.toInt + 1) hi z93 v99.toInt := e113
          have e114 : ZNm cf97 (1 : Int) v99.toInt := e114
          have hty_z93 : ZTe cf97 ta ca na ma0 (cf97 48).toInt ys nf ma96 (p0.toInt + 1) hi z93 0 := ZTe.to (t := 0) (ZTy.num e113 e114) (fun q => by omega) (by omega) (Int.le_refl _) (Int.le_refl _) rfl
          have e115 : RL_mp_check d tf ta na ca z93 (1 : Int32) ma cf ma96 cf97 v99 := e115
          have e115X : RX_mp_check tf ta na ca z93 (1 : Int32) ma cf ma96 cf97 v99 := ⟨d, e115⟩
          have hw : pw D A s.heap H locs [wdP cs h r g tf ta pf na ma96 wa cf97 ca ef ea xf xa] := hw
          have lv99 := Int32.le_toInt v99
          have uv99 := Int32.toInt_lt v99
          refine lv_pop S.x S.b d_Mpg_checkReturn_69 rfl ?_
          exact px_vret S hr hlk hAe hw (Nat.le_of_ble_eq_true rfl) (Nat.le_of_ble_eq_true rfl) (⟨ma96, cf97, ca, rfl, (show (cf97 30).toInt = 0 → (cf 30).toInt = 0 from by first | exact hkz_e100 | omega), (show WrV cf97 (tf 6).toInt from hwr), (show (cf97 37).toInt = (cf 37).toInt from by first | exact hkk37_e100 | omega), (show (cf97 38).toInt = (cf 38).toInt from by first | exact e103 | omega), (show (cf97 43).toInt = (cf 43).toInt from by first | exact hkk43_e100 | omega), (show (cf97 44).toInt = (cf 44).toInt from by first | exact hkk44_e100 | omega), (show (cf97 45).toInt = (cf 45).toInt from by first | exact hkk45_e100 | omega), (show (cf97 46).toInt = (cf 46).toInt from by first | exact e105 | omega), (show (cf97 47).toInt = (cf 47).toInt from by first | exact e106 | omega), (show (cf97 41).toInt = (cf 41).toInt from by first | exact hkk41_e100 | omega), (show (cf97 55).toInt = (cf 55).toInt from by first | exact hkk55_e100 | omega), (show (cf97 59).toInt = (cf 59).toInt from by first | exact hkk59_e100 | omega), (show (cf97 33).toInt = (cf 33).toInt from by first | exact e102 | omega), (show (cf 48).toInt ≤ (cf97 48).toInt from by first | exact oz_f9b42d1b56 e104 | omega), (show 6 * (cf97 48).toInt ≤ 6 * (cf 48).toInt + (w) from by first | exact oz_092373726c g5 e104 | omega), (show (cf 54).toInt ≤ (cf97 54).toInt from by first | exact oz_f9b42d1b56 hkk54_e100 | omega), (show (cf 42).toInt ≤ (cf97 42).toInt from by first | exact oz_f9b42d1b56 hkk42_e100 | omega), (show (cf97 54).toInt - (cf 54).toInt ≤ 4 * ((cf97 42).toInt - (cf 42).toInt) from by first | exact oz_7f23dbcb5f hkk42_e100 hkk54_e100 | omega), (show (cf97 54).toInt - (cf 54).toInt ≤ 4096 * ((cf97 48).toInt - (cf 48).toInt) from by first | exact oz_a2be20d97d e104 hkk54_e100 | omega), (show (cf97 42).toInt - (cf 42).toInt ≤ 4096 * ((cf97 48).toInt - (cf 48).toInt) from by first | exact oz_a2be20d97d e104 hkk42_e100 | omega), (show KnT (tf 6).toInt ca (cf97 33).toInt from (KnT.eq hkt (by omega))), (show KnS ca (cf97 33).toInt (cf97 48).toInt ys from (KnS.eq hks (by omega) (by omega))), (show CaG ca ca (cf 33).toInt (cf 48).toInt from (hcg.le (by omega) (by omega))), (show SyR ca ys (cf97 48).toInt (cf97 54).toInt tx from (SyR.eq hsr (by omega) (by omega))), (show Ann na ma0 ma96 from han), (show FrC lo hi ma ma96 from hfc), (show ZTe cf97 ta ca na ma0 (cf97 48).toInt ys nf ma96 lo hi p0 (tgv (cf 44).toInt (cf 45).toInt) from (fun zz => by exact tys_33 ⟨by omega, by omega, by omega⟩ tgv_rng (by omega) ha_z93 (ZTe.ot hty_z93 (by omega) (by omega) (by omega) (by omega) rfl))), (show R_mp_checkReturn (RL_mp_checkStatement d) tf ta na p0 ma cf ca ma96 cf97 ca from (Or.inl ⟨z1, ez1, Or.inr ⟨nc2, z86, ez86, Or.inl ⟨nc87, z90, ez90, Or.inr ⟨nc91, z93, ez93, ma96, cf97, v99, e115X, rfl, rfl, rfl⟩⟩⟩⟩))⟩) d_Mpg_checkReturn_70
      · exact absurd c89 (by decide)
    · have nc87 : ¬ z86.toInt < (0 : Int) := mt (i_lt (x := z86) (y := 0)).mpr c87
      refine lv_iconst (v := 1) S.x S.b d_Mpg_checkReturn_29 (by decide) ?_
      refine lv_goto (tgt := 34) S.x S.b d_Mpg_checkReturn_30 (by decide) ?_
      refine lv_icmp_ne (tgt := 49) S.x S.b d_Mpg_checkReturn_34 (by decide) (fun c116 => ?_) (fun c116 => ?_)
      · exact absurd c116 (by decide)
      ·
        refine lv_aload_n S.x S.b d_Mpg_checkReturn_37 rfl (lv_at hl 1 rfl) ?_
        refine lv_bipush (v := 11) S.x S.b d_Mpg_checkReturn_38 (by decide) ?_
        refine lv_aload_n S.x S.b d_Mpg_checkReturn_40 rfl (lv_at hl 1 rfl) ?_
        refine px_get S k_Mpg hT hw 0 0 15 (v := .ref (r 15)) rfl rfl rfl (by decide) m9_239 d_Mpg_checkReturn_41 ?_
        refine lv_iload_n S.x S.b d_Mpg_checkReturn_44 rfl (lv_at hl 2 rfl) ?_
        refine px_iald S hT hw 0 11 (n := 2100) (f := (na 15)) rfl gp_15 (x := p0) (vp_in_iff.mpr (by first | exact oz_a7e05de1cd hsr0.2.2.1 hsr0.2.1 g1 g2 | (constructor <;> omega))) d_Mpg_checkReturn_45 ?_
        refine lv_topi (fun z117 ez117 => ?_)
        have lz117 := Int32.le_toInt z117
        have uz117 := Int32.toInt_lt z117
        have rz117 := ScV.tok hsc_p0 ez117
        refine px_callv (pr := []) (px_runV (As := [.int 11, .int z117]) (rest := []) S (c_mp_bad l D cs h r g tf ta pf na ma wa ca ef ea xf xa cf 11 z117  (show 1 ≤ (11 : Int) from by first | exact oz_6fea180d23 | omega) (show 0 ≤ z117.toInt from by first | exact rz117.1 | omega) (show z117.toInt < (tf 6).toInt from by first | exact oz_7fe81129bf rz117.2 | omega) htk hwr _) hT (pr := []) (pcs := [wdP cs h r g tf ta pf na ma wa cf ca ef ea xf xa]) hw px_X.tt (px_recv hT hw 0 0 rfl rfl rfl) m12_173 m12_170 m12_172 ms_11_12 m1_21 q_Mpg_bad ⟨show 0 + 1 ≤ (6 * d + 27) from (by first | exact oz_d1d6e9fd93 | omega), show 8 + (3 + 11) + 0 ≤ (260 * d + 940) from (by first | exact oz_bb12660973 | omega)⟩ hl.1 rfl (Nat.le_of_ble_eq_true rfl) d_Mpg_checkReturn_46 ⟨Nat.le_of_ble_eq_true rfl, Nat.le_of_ble_eq_true rfl⟩) hw hA (fun p120 H locs hp120 hw => ?_)
        obtain ⟨cf119, rfl, e122, e123, e124, e125, e126, e127, e128, e129, e130, e131, e132, e133, e134, e135, e136, e137, e138, e139, e140, e141⟩ := hp120
        have e122 : KpE cf cf119 := e122
        have hkz_e122 := e122.2
        have e123 : WrV cf119 (tf 6).toInt := e123
        have hwr := e123
        have hw0_e123 := hwr.1
        have e124 : 1 ≤ (cf119 30).toInt := e124
        have e125 : (cf119 33).toInt = (cf 33).toInt := e125
        have e126 : (cf119 38).toInt = (cf 38).toInt := e126
        have e127 : (cf119 48).toInt = (cf 48).toInt := e127
        have e128 : (cf119 46).toInt = (cf 46).toInt := e128
        have e129 : (cf119 47).toInt = (cf 47).toInt := e129
        have e130 : (cf119 57).toInt = (cf 57).toInt := e130
        have e131 : (cf119 37).toInt = (cf 37).toInt := e131
        have e132 : (cf119 42).toInt = (cf 42).toInt := e132
        have e133 : (cf119 43).toInt = (cf 43).toInt := e133
        have e134 : (cf119 44).toInt = (cf 44).toInt := e134
        have e135 : (cf119 45).toInt = (cf 45).toInt := e135
        have e136 : (cf119 54).toInt = (cf 54).toInt := e136
        have e137 : (cf119 55).toInt = (cf 55).toInt := e137
        have e138 : (cf119 58).toInt = (cf 58).toInt := e138
        have e139 : (cf119 59).toInt = (cf 59).toInt := e139
        have e140 : (cf119 41).toInt = (cf 41).toInt := e140
        have e141 : R_mp_bad (11 : Int32) z117 cf cf119 := e141
        have hw : pw D A s.heap H locs [wdP cs h r g tf ta pf na ma wa cf119 ca ef ea xf xa] := hw
        refine lv_aload_n S.x S.b d_Mpg_checkReturn_49 rfl (lv_at hl 1 rfl) ?_
        refine px_get S k_Mpg hT hw 0 0 17 (v := .ref (r 17)) rfl rfl rfl (by decide) m10_1 d_Mpg_checkReturn_50 ?_
        refine lv_iload_n S.x S.b d_Mpg_checkReturn_53 rfl (lv_at hl 2 rfl) ?_
        refine px_iald S hT hw 0 13 (n := 2100) (f := (na 17)) rfl gp_17 (x := p0) (vp_in_iff.mpr (by first | exact oz_a7e05de1cd hsr0.2.2.1 hsr0.2.1 g1 g2 | (constructor <;> omega))) d_Mpg_checkReturn_54 ?_
        refine lv_topi (fun z142 ez142 => ?_)
        have lz142 := Int32.le_toInt z142
        have uz142 := Int32.toInt_lt z142
        have ha_z142 : z142 = na 17 p0.toNatClampNeg := ez142; have hn_z142 : z142.toInt = (na 17 p0.toNatClampNeg).toInt := (by rw [ha_z142])
        refine lv_if_lt (tgt := 70) S.x S.b d_Mpg_checkReturn_55 (by decide) (fun c143 => ?_) (fun c143 => ?_)
        · have nc143 : z142.toInt < (0 : Int) := (i_lt (x := z142) (y := 0)).mp c143
          exact px_vret S hr hlk hAe hw (Nat.le_of_ble_eq_true rfl) (Nat.le_of_ble_eq_true rfl) (⟨ma, cf119, ca, rfl, (show (cf119 30).toInt = 0 → (cf 30).toInt = 0 from by first | exact hkz_e122 | omega), (show WrV cf119 (tf 6).toInt from hwr), (show (cf119 37).toInt = (cf 37).toInt from by first | exact e131 | omega), (show (cf119 38).toInt = (cf 38).toInt from by first | exact e126 | omega), (show (cf119 43).toInt = (cf 43).toInt from by first | exact e133 | omega), (show (cf119 44).toInt = (cf 44).toInt from by first | exact e134 | omega), (show (cf119 45).toInt = (cf 45).toInt from by first | exact e135 | omega), (show (cf119 46).toInt = (cf 46).toInt from by first | exact e128 | omega), (show (cf119 47).toInt = (cf 47).toInt from by first | exact e129 | omega), (show (cf119 41).toInt = (cf 41).toInt from by first | exact e140 | omega), (show (cf119 55).toInt = (cf 55).toInt from by first | exact e137 | omega), (show (cf119 59).toInt = (cf 59).toInt from by first | exact e139 | omega), (show (cf119 33).toInt = (cf 33).toInt from by first | exact e125 | omega), (show (cf 48).toInt ≤ (cf119 48).toInt from by first | exact oz_f9b42d1b56 e127 | omega), (show 6 * (cf119 48).toInt ≤ 6 * (cf 48).toInt + (w) from by first | exact oz_092373726c g5 e127 | omega), (show (cf 54).toInt ≤ (cf119 54).toInt from by first | exact oz_f9b42d1b56 e136 | omega), (show (cf 42).toInt ≤ (cf119 42).toInt from by first | exact oz_f9b42d1b56 e132 | omega), (show (cf119 54).toInt - (cf 54).toInt ≤ 4 * ((cf119 42).toInt - (cf 42).toInt) from by first | exact oz_7f23dbcb5f e132 e136 | omega), (show (cf119 54).toInt - (cf 54).toInt ≤ 4096 * ((cf119 48).toInt - (cf 48).toInt) from by first | exact oz_a2be20d97d e127 e136 | omega), (show (cf119 42).toInt - (cf 42).toInt ≤ 4096 * ((cf119 48).toInt - (cf 48).toInt) from by first | exact oz_a2be20d97d e127 e132 | omega), (show KnT (tf 6).toInt ca (cf119 33).toInt from (KnT.eq hkt (by omega))), (show KnS ca (cf119 33).toInt (cf119 48).toInt ys from (KnS.eq hks (by omega) (by omega))), (show CaG ca ca (cf 33).toInt (cf 48).toInt from (hcg.le (by omega) (by omega))), (show SyR ca ys (cf119 48).toInt (cf119 54).toInt tx from (SyR.eq hsr (by omega) (by omega))), (show Ann na ma0 ma from han), (show FrC lo hi ma ma from hfc), (show ZTe cf119 ta ca na ma0 (cf119 48).toInt ys nf ma lo hi p0 (tgv (cf 44).toInt (cf 45).toInt) from (zr_no (by omega))), (show R_mp_checkReturn (RL_mp_checkStatement d) tf ta na p0 ma cf ca ma cf119 ca from (Or.inl ⟨z1, ez1, Or.inr ⟨nc2, z86, ez86, Or.inr ⟨nc87, z117, ez117, cf119, e141, z142, ez142, Or.inl ⟨nc143, rfl, rfl, rfl⟩⟩⟩⟩))⟩) d_Mpg_checkReturn_70
        · have nc143 : ¬ z142.toInt < (0 : Int) := mt (i_lt (x := z142) (y := 0)).mpr c143
          refine lv_aload_n S.x S.b d_Mpg_checkReturn_58 rfl (lv_at hl 1 rfl) ?_
          refine lv_aload_n S.x S.b d_Mpg_checkReturn_59 rfl (lv_at hl 1 rfl) ?_
          refine px_get S k_Mpg hT hw 0 0 17 (v := .ref (r 17)) rfl rfl rfl (by decide) m10_1 d_Mpg_checkReturn_60 ?_
          refine lv_iload_n S.x S.b d_Mpg_checkReturn_63 rfl (lv_at hl 2 rfl) ?_
          refine px_iald S hT hw 0 13 (n := 2100) (f := (na 17)) rfl gp_17 (x := p0) (vp_in_iff.mpr (by first | exact oz_a7e05de1cd hsr0.2.2.1 hsr0.2.1 g1 g2 | (constructor <;> omega))) d_Mpg_checkReturn_64 ?_
          refine lv_topi (fun z145 ez145 => ?_)
          have lz145 := Int32.le_toInt z145
          have uz145 := Int32.toInt_lt z145
          have ha_z145 : z145 = na 17 p0.toNatClampNeg := ez145; have hn_z145 : z145.toInt = (na 17 p0.toNatClampNeg).toInt := (by rw [ha_z145]); have hev_z145 : ErV ta (tf 6).toInt na ma0 d (p0.toInt + 1) hi (w - 2) z145 := (by rw [ha_z145]; exact hoc.get (by omega)); obtain ⟨hec_z145, h20_z145, hw_z145⟩ := hev_z145.ec; have hrg_z145 := EcV.rng hec_z145
          refine lv_iconst (v := 1) S.x S.b d_Mpg_checkReturn_65 (by decide) ?_
          refine px_calli (pr := []) (px_runV (As := [.int z145, .int 1]) (rest := []) S (c_S_check l D cs ma0 ys (cf119 48).toInt nf (cf119 33).toInt d (p0.toInt + 1) hi h r g tf ta pf na wa ca ef ea xf xa ma cf119 z145 1  (show 0 ≤ (p0.toInt + 1) from by first | exact oz_c12c169b81 hsr0.2.2.1 | omega) (show hi ≤ (pf 13).toInt from by first | exact g1 | omega) (show (pf 13).toInt ≤ 2100 from by first | exact g2 | omega) (show (tf 6).toInt ≤ 2049 from by first | exact g3 | omega) (show (cf119 33).toInt = (cf119 33).toInt from rfl) (show 0 ≤ (cf119 33).toInt from by first | exact oz_f3ebed1ad0 e125 g4 | omega) (show (cf119 48).toInt = (cf119 48).toInt from rfl) (show (cf119 38).toInt = nf from by first | exact oz_1687f4cc65 g9 e126 | omega) (show 0 ≤ nf from by first | exact g10 | omega) (show 0 ≤ (1 : Int) from by first | exact oz_19c3a41681 | omega) (show (1 : Int) ≤ 1 from by first | exact oz_f9181dc4bb | omega) htk (FsI.le (N' := (pf 13).toInt) hfs (by omega)) hwr (KnT.eq hkt (by omega)) (FnT.eq hft (by omega)) (KnS.eq hks (by omega) (by omega)) hfp han hec_z145 _) hT (pr := []) (pcs := [wdP cs h r g tf ta pf na ma wa cf119 ca ef ea xf xa]) hw (oX_call (P := (fun A U H => (oP A g U H))) (pr := []) oG_P hw hA hP) (px_recv hT hw 0 0 rfl rfl rfl) m12_217 m12_214 m12_216 ms_12_7 m1_21 q_Mpg_check ⟨show (4 * d + 12) + 1 ≤ (6 * d + 27) from (by first | exact oz_fb996a10c4 | omega), show 8 + (8 + 11) + (200 * d + 420) ≤ (260 * d + 940) from (by first | exact oz_d6614ca526 | omega)⟩ hl.1 rfl (Nat.le_of_ble_eq_true rfl) d_Mpg_checkReturn_66 ⟨Nat.le_of_ble_eq_true rfl, Nat.le_of_ble_eq_true rfl⟩) hw hA (fun v151 p150 H locs hp150 hw => ?_)
          obtain ⟨ma148, cf149, rfl, e152, e153, e154, e155, e156, e157, e158, e159, e160, e161, e162, e163, e164, e165, e166, e167⟩ := hp150
          have e152 : KpE cf119 cf149 := e152
          have hkz_e152 := e152.2
          have hkk37_e152 : (cf149 37).toInt = (cf119 37).toInt := (by rw [e152.1 37 (by decide) (by decide) (by decide) (by decide) (by decide)] <;> rfl)
          have hkk43_e152 : (cf149 43).toInt = (cf119 43).toInt := (by rw [e152.1 43 (by decide) (by decide) (by decide) (by decide) (by decide)] <;> rfl)
          have hkk44_e152 : (cf149 44).toInt = (cf119 44).toInt := (by rw [e152.1 44 (by decide) (by decide) (by decide) (by decide) (by decide)] <;> rfl)
          have hkk45_e152 : (cf149 45).toInt = (cf119 45).toInt := (by rw [e152.1 45 (by decide) (by decide) (by decide) (by decide) (by decide)] <;> rfl)
          have hkk41_e152 : (cf149 41).toInt = (cf119 41).toInt := (by rw [e152.1 41 (by decide) (by decide) (by decide) (by decide) (by decide)] <;> rfl)
          have hkk55_e152 : (cf149 55).toInt = (cf119 55).toInt := (by rw [e152.1 55 (by decide) (by decide) (by decide) (by decide) (by decide)] <;> rfl)
          have hkk59_e152 : (cf149 59).toInt = (cf119 59).toInt := (by rw [e152.1 59 (by decide) (by decide) (by decide) (by decide) (by decide)] <;> rfl)
          have hkk42_e152 : (cf149 42).toInt = (cf119 42).toInt := (by rw [e152.1 42 (by decide) (by decide) (by decide) (by decide) (by decide)] <;> rfl)
          have hkk54_e152 : (cf149 54).toInt = (cf119 54).toInt := (by rw [e152.1 54 (by decide) (by decide) (by decide) (by decide) (by decide)] <;> rfl)
          have hkk58_e152 : (cf149 58).toInt = (cf119 58).toInt := (by rw [e152.1 58 (by decide) (by decide) (by decide) (by decide) (by decide)] <;> rfl)
          have e153 : WrV cf149 (tf 6).toInt := e153
          have hwr := e153
          have hw0_e153 := hwr.1
          have e154 : (cf149 33).toInt = (cf119 33).toInt := e154
          have e155 : (cf149 38).toInt = (cf119 38).toInt := e155
          have e156 : (cf149 48).toInt = (cf119 48).toInt := e156
          have e157 : (cf149 46).toInt = (cf119 46).toInt := e157
          have e158 : (cf149 47).toInt = (cf119 47).toInt := e158
          have e159 : (cf149 57).toInt = (cf119 57).toInt := e159
          have e160 : Ann na ma0 ma148 := e160
          have han := e160
          have e161 : FrC (p0.toInt + 1) hi ma ma148 := e161
          have hfc := hfc.tr e161 (by omega) (by omega)
          have e162 : 0 ≤ v151.toInt := e162
          have e163 : v151.toInt ≤ 4 := e163
          have e164 : NmJ ta ca na ma148 (cf119 33).toInt z145 v151.toInt := e164
          have e165 : ZTy cf149 (Gk ta ca na ma0 (cf119 48).toInt ys nf) na ma148 (p0.toInt + 1) hi z145 v151.toInt := e165
          have e166 : ZNm cf149 (1 : Int) v151.toInt := e166
          have hty_z145 : ZTe cf149 ta ca na ma0 (cf149 48).toInt ys nf ma148 (p0.toInt + 1) hi z145 0 := ZTe.to (t := 0) (ZTy.num e165 e166) (fun q => by omega) (by omega) (Int.le_refl _) (Int.le_refl _) rfl
          have e167 : RL_mp_check d tf ta na ca z145 (1 : Int32) ma cf119 ma148 cf149 v151 := e167
          have e167X : RX_mp_check tf ta na ca z145 (1 : Int32) ma cf119 ma148 cf149 v151 := ⟨d, e167⟩
          have hw : pw D A s.heap H locs [wdP cs h r g tf ta pf na ma148 wa cf149 ca ef ea xf xa] := hw
          have lv151 := Int32.le_toInt v151
          have uv151 := Int32.toInt_lt v151
          refine lv_pop S.x S.b d_Mpg_checkReturn_69 rfl ?_
          exact px_vret S hr hlk hAe hw (Nat.le_of_ble_eq_true rfl) (Nat.le_of_ble_eq_true rfl) (⟨ma148, cf149, ca, rfl, (show (cf149 30).toInt = 0 → (cf 30).toInt = 0 from by omega), (show WrV cf149 (tf 6).toInt from hwr), (show (cf149 37).toInt = (cf 37).toInt from by first | exact oz_1687f4cc65 e131 hkk37_e152 | omega), (show (cf149 38).toInt = (cf 38).toInt from by first | exact oz_1687f4cc65 e126 e155 | omega), (show (cf149 43).toInt = (cf 43).toInt from by first | exact oz_1687f4cc65 e133 hkk43_e152 | omega), (show (cf149 44).toInt = (cf 44).toInt from by first | exact oz_1687f4cc65 e134 hkk44_e152 | omega), (show (cf149 45).toInt = (cf 45).toInt from by first | exact oz_1687f4cc65 e135 hkk45_e152 | omega), (show (cf149 46).toInt = (cf 46).toInt from by first | exact oz_1687f4cc65 e128 e157 | omega), (show (cf149 47).toInt = (cf 47).toInt from by first | exact oz_1687f4cc65 e129 e158 | omega), (show (cf149 41).toInt = (cf 41).toInt from by first | exact oz_1687f4cc65 e140 hkk41_e152 | omega), (show (cf149 55).toInt = (cf 55).toInt from by first | exact oz_1687f4cc65 e137 hkk55_e152 | omega), (show (cf149 59).toInt = (cf 59).toInt from by first | exact oz_1687f4cc65 e139 hkk59_e152 | omega), (show (cf149 33).toInt = (cf 33).toInt from by first | exact oz_1687f4cc65 e125 e154 | omega), (show (cf 48).toInt ≤ (cf149 48).toInt from by first | exact oz_d01699e821 e127 e156 | omega), (show 6 * (cf149 48).toInt ≤ 6 * (cf 48).toInt + (w) from by first | exact oz_48fba83842 g5 e127 e156 | omega), (show (cf 54).toInt ≤ (cf149 54).toInt from by first | exact oz_d01699e821 e136 hkk54_e152 | omega), (show (cf 42).toInt ≤ (cf149 42).toInt from by first | exact oz_d01699e821 e132 hkk42_e152 | omega), (show (cf149 54).toInt - (cf 54).toInt ≤ 4 * ((cf149 42).toInt - (cf 42).toInt) from by first | exact oz_609cf4b982 e132 e136 hkk42_e152 hkk54_e152 | omega), (show (cf149 54).toInt - (cf 54).toInt ≤ 4096 * ((cf149 48).toInt - (cf 48).toInt) from by first | exact oz_9a318b6183 e127 e136 e156 hkk54_e152 | omega), (show (cf149 42).toInt - (cf 42).toInt ≤ 4096 * ((cf149 48).toInt - (cf 48).toInt) from by first | exact oz_9a318b6183 e127 e132 e156 hkk42_e152 | omega), (show KnT (tf 6).toInt ca (cf149 33).toInt from (KnT.eq hkt (by omega))), (show KnS ca (cf149 33).toInt (cf149 48).toInt ys from (KnS.eq hks (by omega) (by omega))), (show CaG ca ca (cf 33).toInt (cf 48).toInt from (hcg.le (by omega) (by omega))), (show SyR ca ys (cf149 48).toInt (cf149 54).toInt tx from (SyR.eq hsr (by omega) (by omega))), (show Ann na ma0 ma148 from han), (show FrC lo hi ma ma148 from hfc), (show ZTe cf149 ta ca na ma0 (cf149 48).toInt ys nf ma148 lo hi p0 (tgv (cf 44).toInt (cf 45).toInt) from (fun zz => by exact tys_33 ⟨by omega, by omega, by omega⟩ tgv_rng (by omega) ha_z145 (ZTe.ot hty_z145 (by omega) (by omega) (by omega) (by omega) rfl))), (show R_mp_checkReturn (RL_mp_checkStatement d) tf ta na p0 ma cf ca ma148 cf149 ca from (Or.inl ⟨z1, ez1, Or.inr ⟨nc2, z86, ez86, Or.inr ⟨nc87, z117, ez117, cf119, e141, z142, ez142, Or.inr ⟨nc143, z145, ez145, ma148, cf149, v151, e167X, rfl, rfl, rfl⟩⟩⟩⟩))⟩) d_Mpg_checkReturn_70
