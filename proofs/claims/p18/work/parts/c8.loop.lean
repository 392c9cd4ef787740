theorem oz_99977282f0 {a0 a1 a2 a3 a4 a5 a6 : Int} (h0 : a0 ≤ a2) (h1 : a1 = a3) (h2 : a4 = a2 + 1) (h3 : a3 = a5) (h4 : a4 ≤ a6) (h5 : a5 = a6 + 1) : a0 ≤ a1 := by omega
theorem oz_b36c82e845 {a0 a1 a2 a3 a4 : Int} (h0 : a1 ≤ a0) (h1 : a2 ≤ a1) (h2 : a2 = a3 + 1) (h3 : a4 ≤ a3) (h4 : 0 ≤ a4) : 0 ≤ a0 := by omega
theorem oz_96eeca19ff {a0 a1 a2 a3 a4 a5 a6 a7 : Int} (h0 : a0 ≤ a2) (h1 : a1 = a3) (h2 : a4 = a2 + 1) (h3 : a3 = a5) (h4 : a4 ≤ a6) (h5 : a5 = a7 + 1) (h6 : a6 ≤ a7) : a0 ≤ a1 := by omega
theorem oz_086d681647 {a0 a1 a2 a3 a4 : Int} (h0 : a0 = a1) (h1 : a1 = a2 + 1) (h2 : a3 ≤ a2) (h3 : a4 ≤ a3) (h4 : 0 ≤ a4) : 0 ≤ a0 := by omega
theorem oz_4aff4f3d78 {a0 a1 a2 a3 a4 a5 : Int} (h0 : a0 = a1 + 1) (h1 : a1 = a2) (h2 : a2 = a3 + 1) (h3 : a4 ≤ a3) (h4 : a5 ≤ a4) (h5 : 0 ≤ a5) : 0 ≤ a0 := by omega
theorem oz_761957d640 {a0 a1 a2 a3 a4 a5 a6 : Int} (h0 : a1 ≤ a0) (h1 : a1 = a2 + 1) (h2 : a2 = a3) (h3 : a3 = a4 + 1) (h4 : a5 ≤ a4) (h5 : a6 ≤ a5) (h6 : 0 ≤ a6) : 0 ≤ a0 := by omega
theorem oz_cdfc221724 {a0 a1 a2 a3 a4 a5 a6 a7 a8 a9 : Int} (h0 : a0 ≤ a2) (h1 : a1 = a3) (h2 : a2 ≤ a4) (h3 : a3 = a5) (h4 : a6 = a4 + 1) (h5 : a5 = a7 + 1) (h6 : a8 = a6) (h7 : a9 ≤ a7) (h8 : a9 = a8 + 1) : a0 ≤ a1 := by omega
theorem oz_dd426ea271 {a0 a1 a2 a3 a4 a5 : Int} (h0 : a0 = a1 + 1) (h1 : a2 ≤ a1) (h2 : a3 ≤ a2) (h3 : a3 = a4 + 1) (h4 : a5 ≤ a4) (h5 : 0 ≤ a5) : 0 ≤ a0 := by omega
theorem oz_3e83355635 {a0 a1 a2 a3 a4 a5 a6 a7 a8 : Int} (h0 : a0 ≤ a2) (h1 : a1 = a3) (h2 : a4 = a2 + 1) (h3 : a3 = a5) (h4 : a4 ≤ a6) (h5 : a5 = a7 + 1) (h6 : a6 ≤ a8) (h7 : a7 = a8 + 1) : a0 ≤ a1 := by omega
theorem oz_a43532ff41 {a0 a1 a2 a3 a4 a5 a6 a7 : Int} (h0 : a1 ≤ a0) (h1 : a2 ≤ a1) (h2 : a2 = a3 + 1) (h3 : a3 = a4) (h4 : a4 = a5 + 1) (h5 : a6 ≤ a5) (h6 : a7 ≤ a6) (h7 : 0 ≤ a7) : 0 ≤ a0 := by omega
theorem oz_9f922ef40d {a0 a1 a2 a3 a4 a5 a6 a7 a8 : Int} (h0 : a0 = a1 + 1) (h1 : a2 ≤ a1) (h2 : a3 ≤ a2) (h3 : a3 = a4 + 1) (h4 : a4 = a5) (h5 : a5 = a6 + 1) (h6 : a7 ≤ a6) (h7 : a8 ≤ a7) (h8 : 0 ≤ a8) : 0 ≤ a0 := by omega
theorem oz_11944bb4bc {a0 a1 a2 a3 a4 a5 a6 a7 a8 a9 a10 a11 : Int} (h0 : a0 ≤ a2) (h1 : a1 = a3) (h2 : a2 ≤ a4) (h3 : a3 = a5) (h4 : a6 = a4 + 1) (h5 : a5 = a7 + 1) (h6 : a8 = a6) (h7 : a7 = a9 + 1) (h8 : a10 = a8 + 1) (h9 : a11 ≤ a9) (h10 : a10 ≤ a11) : a0 ≤ a1 := by omega
theorem oz_acc2a3d5a9 {a0 a1 : Int} (h0 : a0 = a1) (h1 : a1 = (-1 : Int)) : a0 = -1 := by omega
theorem oz_75ff98d10e {a0 a1 a2 a3 : Int} (h0 : a2 = a0) (h1 : a3 ≤ a1) (h2 : a3 = a2) : a0 ≤ a1 := by omega
theorem oz_66d98a8d6f {a0 a1 a2 a3 a4 : Int} (h0 : a3 = a1) (h1 : a0 ≤ a4 + a2) (h2 : a4 = a3) : a0 ≤ a1 + a2 := by omega
theorem oz_7fe5d62c02 {a0 a1 a2 a3 : Int} (h0 : a3 ≤ a1 + a2) (h1 : a0 = a3) : a0 ≤ a1 + a2 := by omega
theorem oz_a17f821d56 {a0 a1 a2 a3 : Int} (h0 : a0 = a1 + 1) (h1 : a2 ≤ a1) (h2 : a3 < a2) (h3 : 0 ≤ a3) : 0 ≤ a0 := by omega
theorem oz_acdc36760a {a0 a1 a2 a3 a4 : Int} (h0 : a0 = a1 + 1) (h1 : a1 = a2 + 1) (h2 : a3 ≤ a2) (h3 : a4 < a3) (h4 : 0 ≤ a4) : 0 ≤ a0 := by omega
theorem oz_7c94cc0890 {a0 a1 a2 a3 a4 : Int} (h0 : a0 = a1) (h1 : a1 = a2 + 1) (h2 : a3 ≤ a2) (h3 : a4 < a3) (h4 : 0 ≤ a4) : 0 ≤ a0 := by omega
theorem oz_330db2bd56 {a0 a1 a2 a3 : Int} (h0 : a3 = a1) (h1 : a0 ≤ a3 + a2) : a0 ≤ a1 + a2 := by omega
theorem m10_65 : Cond.fieldLink "HomeSystemModel$Program" 752 "HomeSystemModel$Program" "continues" "I" ∈ AL := AL_10 (List.mem_of_getElem? (i := 65) rfl) rfl
theorem m10_64 : Cond.fieldLink "HomeSystemModel$Program" 749 "HomeSystemModel$Program" "breaks" "I" ∈ AL := AL_10 (List.mem_of_getElem? (i := 64) rfl) rfl
theorem m13_119 : Cond.methodLink "HomeSystemModel$Program" 737 ⟨"HomeSystemModel$Program", "makeRow", "(I)V"⟩ ∈ AL := AL_13 (List.mem_of_getElem? (i := 119) rfl) rfl
theorem m13_122 : Cond.code ⟨"HomeSystemModel$Program", "makeRow", "(I)V"⟩ prog_16_method_113_code 3 (Option.none : Option Jvm.ClassFile.FieldType) ∈ AL := AL_13 (List.mem_of_getElem? (i := 122) rfl) rfl
theorem ms_14_11 : Cond.selects "HomeSystemModel$Program" ⟨"HomeSystemModel$Program", "makeRow", "(I)V"⟩ ⟨"HomeSystemModel$Program", "makeRow", "(I)V"⟩ ∈ AL := AL_p (q := (⟨"HomeSystemModel$Program", "makeRow", "(I)V"⟩, 69)) (by unfold lw_privs; exact List.mem_append_right _ (List.mem_append_right _ (List.mem_append_right _ (List.mem_append_right _ (List.mem_append_right _ (List.mem_append_right _ (List.mem_append_right _ (List.mem_append_right _ (List.mem_append_right _ (List.mem_append_right _ (List.mem_append_right _ (List.mem_append_right _ (List.mem_append_right _ (List.mem_append_left _ (List.mem_of_getElem? (i := 11) rfl)))))))))))))))
theorem m13_121 : Cond.instanceMethod ⟨"HomeSystemModel$Program", "makeRow", "(I)V"⟩ ∈ AL := AL_13 (List.mem_of_getElem? (i := 121) rfl) rfl
abbrev b_Mpg_makeLoop : ByteArray := prog_16_method_117_code
def y_Mpg_makeLoop : MethodName := ⟨"HomeSystemModel$Program", "makeLoop", "(I)V"⟩
theorem d_Mpg_makeLoop_0 : decode b_Mpg_makeLoop 0 = .ok (.aload_n 0, 1) := by decide +kernel
theorem d_Mpg_makeLoop_1 : decode b_Mpg_makeLoop 1 = .ok (.getfield 749, 3) := by decide +kernel
theorem d_Mpg_makeLoop_4 : decode b_Mpg_makeLoop 4 = .ok (.istore_n 2, 1) := by decide +kernel
theorem d_Mpg_makeLoop_5 : decode b_Mpg_makeLoop 5 = .ok (.aload_n 0, 1) := by decide +kernel
theorem d_Mpg_makeLoop_6 : decode b_Mpg_makeLoop 6 = .ok (.getfield 752, 3) := by decide +kernel
theorem d_Mpg_makeLoop_9 : decode b_Mpg_makeLoop 9 = .ok (.istore_n 3, 1) := by decide +kernel
theorem d_Mpg_makeLoop_10 : decode b_Mpg_makeLoop 10 = .ok (.aload_n 0, 1) := by decide +kernel
theorem d_Mpg_makeLoop_11 : decode b_Mpg_makeLoop 11 = .ok (.iconst (-1), 1) := by decide +kernel
theorem d_Mpg_makeLoop_12 : decode b_Mpg_makeLoop 12 = .ok (.putfield 749, 3) := by decide +kernel
theorem d_Mpg_makeLoop_15 : decode b_Mpg_makeLoop 15 = .ok (.aload_n 0, 1) := by decide +kernel
theorem d_Mpg_makeLoop_16 : decode b_Mpg_makeLoop 16 = .ok (.iconst (-1), 1) := by decide +kernel
theorem d_Mpg_makeLoop_17 : decode b_Mpg_makeLoop 17 = .ok (.putfield 752, 3) := by decide +kernel
theorem d_Mpg_makeLoop_20 : decode b_Mpg_makeLoop 20 = .ok (.aload_n 0, 1) := by decide +kernel
theorem d_Mpg_makeLoop_21 : decode b_Mpg_makeLoop 21 = .ok (.getfield 207, 3) := by decide +kernel
theorem d_Mpg_makeLoop_24 : decode b_Mpg_makeLoop 24 = .ok (.iload_n 1, 1) := by decide +kernel
theorem d_Mpg_makeLoop_25 : decode b_Mpg_makeLoop 25 = .ok (.baload, 1) := by decide +kernel
theorem d_Mpg_makeLoop_26 : decode b_Mpg_makeLoop 26 = .ok (.istore 4, 2) := by decide +kernel
theorem d_Mpg_makeLoop_28 : decode b_Mpg_makeLoop 28 = .ok (.iload 4, 2) := by decide +kernel
theorem d_Mpg_makeLoop_30 : decode b_Mpg_makeLoop 30 = .ok (.bipush 27, 2) := by decide +kernel
theorem d_Mpg_makeLoop_32 : decode b_Mpg_makeLoop 32 = .ok (.if_icmp .ne 22, 3) := by decide +kernel
theorem d_Mpg_makeLoop_35 : decode b_Mpg_makeLoop 35 = .ok (.aload_n 0, 1) := by decide +kernel
theorem d_Mpg_makeLoop_36 : decode b_Mpg_makeLoop 36 = .ok (.getfield 216, 3) := by decide +kernel
theorem d_Mpg_makeLoop_39 : decode b_Mpg_makeLoop 39 = .ok (.iload_n 1, 1) := by decide +kernel
theorem d_Mpg_makeLoop_40 : decode b_Mpg_makeLoop 40 = .ok (.iaload, 1) := by decide +kernel
theorem d_Mpg_makeLoop_41 : decode b_Mpg_makeLoop 41 = .ok (.ifCond .lt 13, 3) := by decide +kernel
theorem d_Mpg_makeLoop_44 : decode b_Mpg_makeLoop 44 = .ok (.aload_n 0, 1) := by decide +kernel
theorem d_Mpg_makeLoop_45 : decode b_Mpg_makeLoop 45 = .ok (.aload_n 0, 1) := by decide +kernel
theorem d_Mpg_makeLoop_46 : decode b_Mpg_makeLoop 46 = .ok (.getfield 216, 3) := by decide +kernel
theorem d_Mpg_makeLoop_49 : decode b_Mpg_makeLoop 49 = .ok (.iload_n 1, 1) := by decide +kernel
theorem d_Mpg_makeLoop_50 : decode b_Mpg_makeLoop 50 = .ok (.iaload, 1) := by decide +kernel
theorem d_Mpg_makeLoop_51 : decode b_Mpg_makeLoop 51 = .ok (.invokevirtual 731, 3) := by decide +kernel
theorem d_Mpg_makeLoop_54 : decode b_Mpg_makeLoop 54 = .ok (.aload_n 0, 1) := by decide +kernel
theorem d_Mpg_makeLoop_55 : decode b_Mpg_makeLoop 55 = .ok (.getfield 708, 3) := by decide +kernel
theorem d_Mpg_makeLoop_58 : decode b_Mpg_makeLoop 58 = .ok (.istore 5, 2) := by decide +kernel
theorem d_Mpg_makeLoop_60 : decode b_Mpg_makeLoop 60 = .ok (.iload 4, 2) := by decide +kernel
theorem d_Mpg_makeLoop_62 : decode b_Mpg_makeLoop 62 = .ok (.bipush 27, 2) := by decide +kernel
theorem d_Mpg_makeLoop_64 : decode b_Mpg_makeLoop 64 = .ok (.if_icmp .ne 12, 3) := by decide +kernel
theorem d_Mpg_makeLoop_67 : decode b_Mpg_makeLoop 67 = .ok (.aload_n 0, 1) := by decide +kernel
theorem d_Mpg_makeLoop_68 : decode b_Mpg_makeLoop 68 = .ok (.getfield 219, 3) := by decide +kernel
theorem d_Mpg_makeLoop_71 : decode b_Mpg_makeLoop 71 = .ok (.iload_n 1, 1) := by decide +kernel
theorem d_Mpg_makeLoop_72 : decode b_Mpg_makeLoop 72 = .ok (.iaload, 1) := by decide +kernel
theorem d_Mpg_makeLoop_73 : decode b_Mpg_makeLoop 73 = .ok (.goto 9, 3) := by decide +kernel
theorem d_Mpg_makeLoop_76 : decode b_Mpg_makeLoop 76 = .ok (.aload_n 0, 1) := by decide +kernel
theorem d_Mpg_makeLoop_77 : decode b_Mpg_makeLoop 77 = .ok (.getfield 216, 3) := by decide +kernel
theorem d_Mpg_makeLoop_80 : decode b_Mpg_makeLoop 80 = .ok (.iload_n 1, 1) := by decide +kernel
theorem d_Mpg_makeLoop_81 : decode b_Mpg_makeLoop 81 = .ok (.iaload, 1) := by decide +kernel
theorem d_Mpg_makeLoop_82 : decode b_Mpg_makeLoop 82 = .ok (.istore 6, 2) := by decide +kernel
theorem d_Mpg_makeLoop_84 : decode b_Mpg_makeLoop 84 = .ok (.iload 4, 2) := by decide +kernel
theorem d_Mpg_makeLoop_86 : decode b_Mpg_makeLoop 86 = .ok (.bipush 26, 2) := by decide +kernel
theorem d_Mpg_makeLoop_88 : decode b_Mpg_makeLoop 88 = .ok (.if_icmp .eq 29, 3) := by decide +kernel
theorem d_Mpg_makeLoop_91 : decode b_Mpg_makeLoop 91 = .ok (.iload 6, 2) := by decide +kernel
theorem d_Mpg_makeLoop_93 : decode b_Mpg_makeLoop 93 = .ok (.ifCond .lt 24, 3) := by decide +kernel
theorem d_Mpg_makeLoop_96 : decode b_Mpg_makeLoop 96 = .ok (.aload_n 0, 1) := by decide +kernel
theorem d_Mpg_makeLoop_97 : decode b_Mpg_makeLoop 97 = .ok (.iload 6, 2) := by decide +kernel
theorem d_Mpg_makeLoop_99 : decode b_Mpg_makeLoop 99 = .ok (.invokevirtual 714, 3) := by decide +kernel
theorem d_Mpg_makeLoop_102 : decode b_Mpg_makeLoop 102 = .ok (.aload_n 0, 1) := by decide +kernel
theorem d_Mpg_makeLoop_103 : decode b_Mpg_makeLoop 103 = .ok (.aload_n 0, 1) := by decide +kernel
theorem d_Mpg_makeLoop_104 : decode b_Mpg_makeLoop 104 = .ok (.bipush 13, 2) := by decide +kernel
theorem d_Mpg_makeLoop_106 : decode b_Mpg_makeLoop 106 = .ok (.aload_n 0, 1) := by decide +kernel
theorem d_Mpg_makeLoop_107 : decode b_Mpg_makeLoop 107 = .ok (.getfield 749, 3) := by decide +kernel
theorem d_Mpg_makeLoop_110 : decode b_Mpg_makeLoop 110 = .ok (.iconst 0, 1) := by decide +kernel
theorem d_Mpg_makeLoop_111 : decode b_Mpg_makeLoop 111 = .ok (.invokevirtual 711, 3) := by decide +kernel
theorem d_Mpg_makeLoop_114 : decode b_Mpg_makeLoop 114 = .ok (.putfield 749, 3) := by decide +kernel
theorem d_Mpg_makeLoop_117 : decode b_Mpg_makeLoop 117 = .ok (.aload_n 0, 1) := by decide +kernel
theorem d_Mpg_makeLoop_118 : decode b_Mpg_makeLoop 118 = .ok (.bipush 19, 2) := by decide +kernel
theorem d_Mpg_makeLoop_120 : decode b_Mpg_makeLoop 120 = .ok (.iconst 0, 1) := by decide +kernel
theorem d_Mpg_makeLoop_121 : decode b_Mpg_makeLoop 121 = .ok (.iconst 0, 1) := by decide +kernel
theorem d_Mpg_makeLoop_122 : decode b_Mpg_makeLoop 122 = .ok (.invokevirtual 711, 3) := by decide +kernel
theorem d_Mpg_makeLoop_125 : decode b_Mpg_makeLoop 125 = .ok (.pop, 1) := by decide +kernel
theorem d_Mpg_makeLoop_126 : decode b_Mpg_makeLoop 126 = .ok (.aload_n 0, 1) := by decide +kernel
theorem d_Mpg_makeLoop_127 : decode b_Mpg_makeLoop 127 = .ok (.iload 4, 2) := by decide +kernel
theorem d_Mpg_makeLoop_129 : decode b_Mpg_makeLoop 129 = .ok (.bipush 27, 2) := by decide +kernel
theorem d_Mpg_makeLoop_131 : decode b_Mpg_makeLoop 131 = .ok (.if_icmp .ne 12, 3) := by decide +kernel
theorem d_Mpg_makeLoop_134 : decode b_Mpg_makeLoop 134 = .ok (.aload_n 0, 1) := by decide +kernel
theorem d_Mpg_makeLoop_135 : decode b_Mpg_makeLoop 135 = .ok (.getfield 225, 3) := by decide +kernel
theorem d_Mpg_makeLoop_138 : decode b_Mpg_makeLoop 138 = .ok (.iload_n 1, 1) := by decide +kernel
theorem d_Mpg_makeLoop_139 : decode b_Mpg_makeLoop 139 = .ok (.iaload, 1) := by decide +kernel
theorem d_Mpg_makeLoop_140 : decode b_Mpg_makeLoop 140 = .ok (.goto 9, 3) := by decide +kernel
theorem d_Mpg_makeLoop_143 : decode b_Mpg_makeLoop 143 = .ok (.aload_n 0, 1) := by decide +kernel
theorem d_Mpg_makeLoop_144 : decode b_Mpg_makeLoop 144 = .ok (.getfield 219, 3) := by decide +kernel
theorem d_Mpg_makeLoop_147 : decode b_Mpg_makeLoop 147 = .ok (.iload_n 1, 1) := by decide +kernel
theorem d_Mpg_makeLoop_148 : decode b_Mpg_makeLoop 148 = .ok (.iaload, 1) := by decide +kernel
theorem d_Mpg_makeLoop_149 : decode b_Mpg_makeLoop 149 = .ok (.invokevirtual 731, 3) := by decide +kernel
theorem d_Mpg_makeLoop_152 : decode b_Mpg_makeLoop 152 = .ok (.aload_n 0, 1) := by decide +kernel
theorem d_Mpg_makeLoop_153 : decode b_Mpg_makeLoop 153 = .ok (.aload_n 0, 1) := by decide +kernel
theorem d_Mpg_makeLoop_154 : decode b_Mpg_makeLoop 154 = .ok (.getfield 752, 3) := by decide +kernel
theorem d_Mpg_makeLoop_157 : decode b_Mpg_makeLoop 157 = .ok (.aload_n 0, 1) := by decide +kernel
theorem d_Mpg_makeLoop_158 : decode b_Mpg_makeLoop 158 = .ok (.getfield 708, 3) := by decide +kernel
theorem d_Mpg_makeLoop_161 : decode b_Mpg_makeLoop 161 = .ok (.invokevirtual 722, 3) := by decide +kernel
theorem d_Mpg_makeLoop_164 : decode b_Mpg_makeLoop 164 = .ok (.iload 4, 2) := by decide +kernel
theorem d_Mpg_makeLoop_166 : decode b_Mpg_makeLoop 166 = .ok (.bipush 26, 2) := by decide +kernel
theorem d_Mpg_makeLoop_168 : decode b_Mpg_makeLoop 168 = .ok (.if_icmp .ne 22, 3) := by decide +kernel
theorem d_Mpg_makeLoop_171 : decode b_Mpg_makeLoop 171 = .ok (.aload_n 0, 1) := by decide +kernel
theorem d_Mpg_makeLoop_172 : decode b_Mpg_makeLoop 172 = .ok (.iload 6, 2) := by decide +kernel
theorem d_Mpg_makeLoop_174 : decode b_Mpg_makeLoop 174 = .ok (.invokevirtual 714, 3) := by decide +kernel
theorem d_Mpg_makeLoop_177 : decode b_Mpg_makeLoop 177 = .ok (.aload_n 0, 1) := by decide +kernel
theorem d_Mpg_makeLoop_178 : decode b_Mpg_makeLoop 178 = .ok (.bipush 14, 2) := by decide +kernel
theorem d_Mpg_makeLoop_180 : decode b_Mpg_makeLoop 180 = .ok (.iload 5, 2) := by decide +kernel
theorem d_Mpg_makeLoop_182 : decode b_Mpg_makeLoop 182 = .ok (.iconst 0, 1) := by decide +kernel
theorem d_Mpg_makeLoop_183 : decode b_Mpg_makeLoop 183 = .ok (.invokevirtual 711, 3) := by decide +kernel
theorem d_Mpg_makeLoop_186 : decode b_Mpg_makeLoop 186 = .ok (.pop, 1) := by decide +kernel
theorem d_Mpg_makeLoop_187 : decode b_Mpg_makeLoop 187 = .ok (.goto 48, 3) := by decide +kernel
theorem d_Mpg_makeLoop_190 : decode b_Mpg_makeLoop 190 = .ok (.iload 4, 2) := by decide +kernel
theorem d_Mpg_makeLoop_192 : decode b_Mpg_makeLoop 192 = .ok (.bipush 27, 2) := by decide +kernel
theorem d_Mpg_makeLoop_194 : decode b_Mpg_makeLoop 194 = .ok (.if_icmp .ne 31, 3) := by decide +kernel
theorem d_Mpg_makeLoop_197 : decode b_Mpg_makeLoop 197 = .ok (.aload_n 0, 1) := by decide +kernel
theorem d_Mpg_makeLoop_198 : decode b_Mpg_makeLoop 198 = .ok (.getfield 222, 3) := by decide +kernel
theorem d_Mpg_makeLoop_201 : decode b_Mpg_makeLoop 201 = .ok (.iload_n 1, 1) := by decide +kernel
theorem d_Mpg_makeLoop_202 : decode b_Mpg_makeLoop 202 = .ok (.iaload, 1) := by decide +kernel
theorem d_Mpg_makeLoop_203 : decode b_Mpg_makeLoop 203 = .ok (.ifCond .lt 22, 3) := by decide +kernel
theorem d_Mpg_makeLoop_206 : decode b_Mpg_makeLoop 206 = .ok (.aload_n 0, 1) := by decide +kernel
theorem d_Mpg_makeLoop_207 : decode b_Mpg_makeLoop 207 = .ok (.aload_n 0, 1) := by decide +kernel
theorem d_Mpg_makeLoop_208 : decode b_Mpg_makeLoop 208 = .ok (.getfield 222, 3) := by decide +kernel
theorem d_Mpg_makeLoop_211 : decode b_Mpg_makeLoop 211 = .ok (.iload_n 1, 1) := by decide +kernel
theorem d_Mpg_makeLoop_212 : decode b_Mpg_makeLoop 212 = .ok (.iaload, 1) := by decide +kernel
theorem d_Mpg_makeLoop_213 : decode b_Mpg_makeLoop 213 = .ok (.invokevirtual 714, 3) := by decide +kernel
theorem d_Mpg_makeLoop_216 : decode b_Mpg_makeLoop 216 = .ok (.aload_n 0, 1) := by decide +kernel
theorem d_Mpg_makeLoop_217 : decode b_Mpg_makeLoop 217 = .ok (.bipush 17, 2) := by decide +kernel
theorem d_Mpg_makeLoop_219 : decode b_Mpg_makeLoop 219 = .ok (.iconst 0, 1) := by decide +kernel
theorem d_Mpg_makeLoop_220 : decode b_Mpg_makeLoop 220 = .ok (.iconst 0, 1) := by decide +kernel
theorem d_Mpg_makeLoop_221 : decode b_Mpg_makeLoop 221 = .ok (.invokevirtual 711, 3) := by decide +kernel
theorem d_Mpg_makeLoop_224 : decode b_Mpg_makeLoop 224 = .ok (.pop, 1) := by decide +kernel
theorem d_Mpg_makeLoop_225 : decode b_Mpg_makeLoop 225 = .ok (.aload_n 0, 1) := by decide +kernel
theorem d_Mpg_makeLoop_226 : decode b_Mpg_makeLoop 226 = .ok (.bipush 12, 2) := by decide +kernel
theorem d_Mpg_makeLoop_228 : decode b_Mpg_makeLoop 228 = .ok (.iload 5, 2) := by decide +kernel
theorem d_Mpg_makeLoop_230 : decode b_Mpg_makeLoop 230 = .ok (.iconst 0, 1) := by decide +kernel
theorem d_Mpg_makeLoop_231 : decode b_Mpg_makeLoop 231 = .ok (.invokevirtual 711, 3) := by decide +kernel
theorem d_Mpg_makeLoop_234 : decode b_Mpg_makeLoop 234 = .ok (.pop, 1) := by decide +kernel
theorem d_Mpg_makeLoop_235 : decode b_Mpg_makeLoop 235 = .ok (.aload_n 0, 1) := by decide +kernel
theorem d_Mpg_makeLoop_236 : decode b_Mpg_makeLoop 236 = .ok (.aload_n 0, 1) := by decide +kernel
theorem d_Mpg_makeLoop_237 : decode b_Mpg_makeLoop 237 = .ok (.getfield 749, 3) := by decide +kernel
theorem d_Mpg_makeLoop_240 : decode b_Mpg_makeLoop 240 = .ok (.aload_n 0, 1) := by decide +kernel
theorem d_Mpg_makeLoop_241 : decode b_Mpg_makeLoop 241 = .ok (.getfield 708, 3) := by decide +kernel
theorem d_Mpg_makeLoop_244 : decode b_Mpg_makeLoop 244 = .ok (.invokevirtual 722, 3) := by decide +kernel
theorem d_Mpg_makeLoop_247 : decode b_Mpg_makeLoop 247 = .ok (.aload_n 0, 1) := by decide +kernel
theorem d_Mpg_makeLoop_248 : decode b_Mpg_makeLoop 248 = .ok (.iload_n 2, 1) := by decide +kernel
theorem d_Mpg_makeLoop_249 : decode b_Mpg_makeLoop 249 = .ok (.putfield 749, 3) := by decide +kernel
theorem d_Mpg_makeLoop_252 : decode b_Mpg_makeLoop 252 = .ok (.aload_n 0, 1) := by decide +kernel
theorem d_Mpg_makeLoop_253 : decode b_Mpg_makeLoop 253 = .ok (.iload_n 3, 1) := by decide +kernel
theorem d_Mpg_makeLoop_254 : decode b_Mpg_makeLoop 254 = .ok (.putfield 752, 3) := by decide +kernel
theorem d_Mpg_makeLoop_257 : decode b_Mpg_makeLoop 257 = .ok (.return_, 1) := by decide +kernel
theorem q_Mpg_makeLoop : px_y y_Mpg_makeLoop 1 := by unfold px_y; decide +kernel
set_option maxHeartbeats 4000000 in
set_option maxRecDepth 100000 in
theorem c_mp_makeLoop (l : Launch) (D : va_G) (cs : Nat → ClassId) (ma0 : Nat → Nat → Int32) (mb : Nat → Nat → Int32) (ys : Int) (ns : Int) (nf : Int) (d : Nat) (lo : Int) (hi : Int) (wt : Int) (V : Nat → Nat → Prop) (vl : Int) (vh : Int) (X9 : Cx) (fi : Int) (lvq : Nat) (bh : Int) (t9 : Nat) (h : Nat) (r : Nat → Nat) (g : Nat → Nat → Option Nat) (tf : Nat → Int32) (ta : Nat → Nat → Int32) (pf : Nat → Int32) (na : Nat → Nat → Int32) (wa : Nat → Nat → Int32) (cf : Nat → Int32) (ca : Nat → Nat → Int32) (xf : Nat → Int32) (xa : Nat → Nat → Int32) (ma : Nat → Nat → Int32) (ef : Nat → Int32) (ea : Nat → Nat → Int32) (p0 : Int32)  (g0 : 0 ≤ (tf 5).toInt) (g1 : (tf 5).toInt ≤ 2048) (g2 : (pf 13).toInt ≤ 2100) (g3 : (tf 6).toInt ≤ 2049) (g4 : (cf 38).toInt = nf) (g5 : 0 ≤ nf) (g6 : 0 ≤ (ef 60).toInt) (g7 : 0 ≤ fi) (g8 : 1 ≤ X9.tall fi) (g9 : bh ≤ X9.tall fi) (g10 : (ef 60).toInt + wt ≤ 7000) (g11 : 25 ≤ (na 14 p0.toNatClampNeg).toInt) (g12 : (na 14 p0.toNatClampNeg).toInt ≤ 27) (htk : TkI tf ta) (hft : FnT (tf 6).toInt na ca (cf 38).toInt) (hfp : FnP na ca nf) (hab : Ann na ma0 mb) (hkc : Kc na mb ma) (htb : Ts (Gk ta ca na ma0 ns ys nf) na mb vl vh V) (hcx : CxI X9 fi ca ns ys nf (tkl na ma0 ca)) (hsk : SkB ta (tf 6).toInt na ma0 mb ca V (d + 1) (pf 13).toInt lo hi wt bh t9 p0) (hLS : StkC l D cs d) : MetV l y_Mpg_makeLoop b_Mpg_makeLoop 7 D cs (5 * d + 14) (200 * d + 630) (0) (0) [.ref h, .int p0] [wdP cs h r g tf ta pf na ma wa cf ca ef ea xf xa] (oX (fun A U H => (oP A g U H)) [wdP cs h r g tf ta pf na ma wa cf ca ef ea xf xa]) (fun ps => ∃ (ma' : Nat → Nat → Int32) (ef' : Nat → Int32) (ea' : Nat → Nat → Int32), (ps = [wdP cs h r g tf ta pf na ma' wa cf ca ef' ea' xf xa]) ∧ ((ef 60).toInt ≤ (ef' 60).toInt) ∧ ((ef' 60).toInt ≤ (ef 60).toInt + wt) ∧ (CdK ea ea' (ef 60).toInt) ∧ (Kc na mb ma') ∧ (FrL lo hi ma ma') ∧ (StQ X9 (ea' 61) (ef 60).toInt (ef' 60).toInt fi [] lvq t9 (ef 64) (ef' 64) (ef 65) (ef' 65))) := by
  refine px_enter (by decide) (Nat.le_of_ble_eq_true rfl) ?_
  intro p e s m below meth c A ls hAe S hr hlk hnm hA hT hX hw hl
  replace hl : lv_has ls 7 [(0, .ref h), (1, .int p0)] := hl
  have lp0 := Int32.le_toInt p0
  have up0 := Int32.toInt_lt p0
  have cstm1 : ((-1) : Int32).toInt = (-1) := rfl
  have cst0 : (0 : Int32).toInt = 0 := rfl
  have cst12 : (12 : Int32).toInt = 12 := rfl
  have cst13 : (13 : Int32).toInt = 13 := rfl
  have cst14 : (14 : Int32).toInt = 14 := rfl
  have cst17 : (17 : Int32).toInt = 17 := rfl
  have cst19 : (19 : Int32).toInt = 19 := rfl
  have cst26 : (26 : Int32).toInt = 26 := rfl
  have cst27 : (27 : Int32).toInt = 27 := rfl
  have hX : (fun A U H => (oP A g U H)) A s s.heap := by rw [hAe]; exact hX
  have hP := hX
  have hZ := hP.1
  have hF0 := hP.2.1
  have hf11 := hft.1
  have han := hab.kc hkc
  have hts := htb.kc hkc
  have hcd : CdK ea ea (ef 60).toInt := CdK.rf
  have hfl : FrL lo hi ma ma := FrL.rf
  have hl0 : (([] : List Nat).length : Int) = 0 := rfl
  have hsk_p0 := hsk
  have hrs0 := hsk.rng
  obtain ⟨l1, h1, l2, h2, w1, w2, w3, w4, hli, hlw, hi27, hc27, hcn7, hd27, hb27, hbn7⟩ := SkB.fl htb hab hsk (by omega)
  have J54 : ∀ (ma_54 : Nat → Nat → Int32) (ef_54 : Nat → Int32) (ea_54 : Nat → Nat → Int32) (x54_2 x54_3 x54_4 : Int32) (H : Heap) (locs : List Loc) (ls : Array Slot), (x54_2.toInt = (ef 64).toInt) → (x54_3.toInt = (ef 65).toInt) → (x54_4.toInt = (na 14 p0.toNatClampNeg).toInt) → ((ef_54 64).toInt = -1) → ((ef_54 65).toInt = -1) → ((ef 60).toInt ≤ (ef_54 60).toInt) → ((ef_54 60).toInt ≤ (ef 60).toInt + w1) → (CdK ea ea_54 (ef 60).toInt) → (Kc na mb ma_54) → (FrL lo hi ma ma_54) → (LpH X9 (ea_54 61) (ef 60).toInt (ef_54 60).toInt (ef_54 60).toInt fi [] lvq (ef_54 64)) → pw D A s.heap H locs [wdP cs h r g tf ta pf na ma_54 wa cf ca ef_54 ea_54 xf xa] → lv_has ls 7 [(0, .ref h), (1, .int p0), (2, .int x54_2), (3, .int x54_3), (4, .int x54_4)] → W p l e { frames := (5 * d + 14), cells := 0, slots := 0, locals := (200 * d + 630) } s m [.ref h, .int p0].toArray below meth c H locs 0 0 (MQ below (va_Qv (fun ps => ∃ (ma' : Nat → Nat → Int32) (ef' : Nat → Int32) (ea' : Nat → Nat → Int32), (ps = [wdP cs h r g tf ta pf na ma' wa cf ca ef' ea' xf xa]) ∧ ((ef 60).toInt ≤ (ef' 60).toInt) ∧ ((ef' 60).toInt ≤ (ef 60).toInt + wt) ∧ (CdK ea ea' (ef 60).toInt) ∧ (Kc na mb ma') ∧ (FrL lo hi ma ma') ∧ (StQ X9 (ea' 61) (ef 60).toInt (ef' 60).toInt fi [] lvq t9 (ef 64) (ef' 64) (ef 65) (ef' 65))) (pc_B D (va_A ([wdP cs h r g tf ta pf na ma wa cf ca ef ea xf xa] : List va_W).flatten s.heap.size)) (va_A ([wdP cs h r g tf ta pf na ma wa cf ca ef ea xf xa] : List va_W).flatten s.heap.size)) [.ref h, .int p0].toArray s 0 0 A) (F0 m 54 ls []) := by
    intro ma_54 ef_54 ea_54 x54_2 x54_3 x54_4 H locs ls k54_0 k54_1 k54_2 k54_3 k54_4 k54_5 k54_6 k54_7 k54_8 k54_9 k54_10 hw hl
    have lx54_2 := Int32.le_toInt x54_2
    have ux54_2 := Int32.toInt_lt x54_2
    have lx54_3 := Int32.le_toInt x54_3
    have ux54_3 := Int32.toInt_lt x54_3
    have lx54_4 := Int32.le_toInt x54_4
    have ux54_4 := Int32.toInt_lt x54_4
    have hcd := k54_7
    have hkc := k54_8
    have han := hab.kc hkc
    have hts := htb.kc hkc
    have hfl := k54_9
    have hlh := k54_10
    refine lv_aload_n S.x S.b d_Mpg_makeLoop_54 rfl (lv_at hl 0 rfl) ?_
    refine px_get S k_Mpg hT hw 0 0 60 (v := .int (ef_54 60)) rfl rfl rfl (by decide) m10_57 d_Mpg_makeLoop_55 ?_
    refine lv_istore (lv' := [(5, .int (ef_54 60)), (0, .ref h), (1, .int p0), (2, .int x54_2), (3, .int x54_3), (4, .int x54_4)]) S.x S.b d_Mpg_makeLoop_58 hl (by decide) rfl (fun ls hl => ?_)
    refine lv_iload S.x S.b d_Mpg_makeLoop_60 (lv_at hl 5 rfl) ?_
    refine lv_bipush (v := 27) S.x S.b d_Mpg_makeLoop_62 (by decide) ?_
    refine lv_icmp_ne (tgt := 76) S.x S.b d_Mpg_makeLoop_64 (by decide) (fun c1 => ?_) (fun c1 => ?_)
    · have nc1 : ¬ x54_4.toInt = (27 : Int) := mt (i_eq (x := x54_4) (y := 27)).mpr c1
      refine lv_aload_n S.x S.b d_Mpg_makeLoop_76 rfl (lv_at hl 1 rfl) ?_
      refine px_get S k_Mpg hT hw 0 0 17 (v := .ref (r 17)) rfl rfl rfl (by decide) m10_1 d_Mpg_makeLoop_77 ?_
      refine lv_iload_n S.x S.b d_Mpg_makeLoop_80 rfl (lv_at hl 2 rfl) ?_
      refine px_iald S hT hw 0 13 (n := 2100) (f := (na 17)) rfl gp_17 (x := p0) (vp_in_iff.mpr (by constructor <;> omega)) d_Mpg_makeLoop_81 ?_
      refine lv_topi (fun z2 ez2 => ?_)
      have lz2 := Int32.le_toInt z2
      have uz2 := Int32.toInt_lt z2
      have hmk_z2 : MkB ta (tf 6).toInt na ma0 ma_54 ca (V1 V) d (pf 13).toInt w2 bh z2 := (by rw [ez2]; exact (hcn7 (by omega)).kc hkc); have hec_z2 := hmk_z2.ec; have hrg_z2 := EcV.rng hec_z2; have hnn_z2 := hmk_z2.nn
      refine lv_istore (lv' := [(6, .int z2), (5, .int (ef_54 60)), (0, .ref h), (1, .int p0), (2, .int x54_2), (3, .int x54_3), (4, .int x54_4)]) S.x S.b d_Mpg_makeLoop_82 hl (by decide) rfl (fun ls hl => ?_)
      refine lv_iload S.x S.b d_Mpg_makeLoop_84 (lv_at hl 6 rfl) ?_
      refine lv_bipush (v := 26) S.x S.b d_Mpg_makeLoop_86 (by decide) ?_
      refine lv_icmp_eq (tgt := 117) S.x S.b d_Mpg_makeLoop_88 (by decide) (fun c3 => ?_) (fun c3 => ?_)
      · have nc3 : x54_4.toInt = (26 : Int) := (i_eq (x := x54_4) (y := 26)).mp c3
        refine lv_aload_n S.x S.b d_Mpg_makeLoop_117 rfl (lv_at hl 2 rfl) ?_
        refine lv_bipush (v := 19) S.x S.b d_Mpg_makeLoop_118 (by decide) ?_
        refine lv_iconst (v := 0) S.x S.b d_Mpg_makeLoop_120 (by decide) ?_
        refine lv_iconst (v := 0) S.x S.b d_Mpg_makeLoop_121 (by decide) ?_
        refine px_calli (pr := []) (px_runV (As := [.int 19, .int 0, .int 0]) (rest := []) S (c_mp_emit l D cs h r g tf ta pf na ma_54 wa cf ca xf xa ef_54 ea_54 19 0 0  (show 0 ≤ (ef_54 60).toInt from by first | exact oz_16d7fa9f32 k54_5 g6 | omega) (show (ef_54 60).toInt < 7000 from by first | with_reducible rfl | with_reducible assumption | omega) _) hT (pr := []) (pcs := [wdP cs h r g tf ta pf na ma_54 wa cf ca ef_54 ea_54 xf xa]) hw px_X.tt (px_recv hT hw 0 0 rfl rfl rfl) m13_86 m13_83 m13_85 ms_14_2 m1_21 q_Mpg_emit ⟨show 0 + 1 ≤ (5 * d + 14) from by first | with_reducible rfl | with_reducible assumption | omega, show 8 + (4 + 11) + 0 ≤ (200 * d + 630) from by first | with_reducible rfl | with_reducible assumption | omega⟩ hl.1 rfl (Nat.le_of_ble_eq_true rfl) d_Mpg_makeLoop_122 ⟨Nat.le_of_ble_eq_true rfl, Nat.le_of_ble_eq_true rfl⟩) hw hA (fun v9 p8 H locs hp8 hw => ?_)
        obtain ⟨ef6, ea7, rfl, e10, e11, e12, e13, e14⟩ := hp8
        replace e10 : v9.toInt = (ef_54 60).toInt := e10
        replace e11 : (ef6 60).toInt = (ef_54 60).toInt + 1 := e11
        replace e12 : (ef6 64).toInt = (ef_54 64).toInt := e12
        replace e13 : (ef6 65).toInt = (ef_54 65).toInt := e13
        replace e14 : EmU ea_54 ea7 (ef_54 60) (19 : Int32) (0 : Int32) (0 : Int32) := e14
        have hcd := hcd.tr e14.cd (by omega)
        replace hw : pw D A s.heap H locs [wdP cs h r g tf ta pf na ma_54 wa cf ca ef6 ea7 xf xa] := hw
        have lv9 := Int32.le_toInt v9
        have uv9 := Int32.toInt_lt v9
        refine lv_pop S.x S.b d_Mpg_makeLoop_125 rfl ?_
        refine lv_aload_n S.x S.b d_Mpg_makeLoop_126 rfl (lv_at hl 2 rfl) ?_
        refine lv_iload S.x S.b d_Mpg_makeLoop_127 (lv_at hl 6 rfl) ?_
        refine lv_bipush (v := 27) S.x S.b d_Mpg_makeLoop_129 (by decide) ?_
        refine lv_icmp_ne (tgt := 143) S.x S.b d_Mpg_makeLoop_131 (by decide) (fun c15 => ?_) (fun c15 => ?_)
        · have nc15 : ¬ x54_4.toInt = (27 : Int) := mt (i_eq (x := x54_4) (y := 27)).mpr c15
          refine lv_aload_n S.x S.b d_Mpg_makeLoop_143 rfl (lv_at hl 2 rfl) ?_
          refine px_get S k_Mpg hT hw 0 0 18 (v := .ref (r 18)) rfl rfl rfl (by decide) m10_3 d_Mpg_makeLoop_144 ?_
          refine lv_iload_n S.x S.b d_Mpg_makeLoop_147 rfl (lv_at hl 3 rfl) ?_
          refine px_iald S hT hw 0 14 (n := 2100) (f := (ma_54 18)) rfl gp_18 (x := p0) (vp_in_iff.mpr (by constructor <;> omega)) d_Mpg_makeLoop_148 ?_
          refine lv_topi (fun z16 ez16 => ?_)
          have lz16 := Int32.le_toInt z16
          have uz16 := Int32.toInt_lt z16
          have hsk_z16 : SkB ta (tf 6).toInt na ma0 mb ca V d (pf 13).toInt l2 h2 w4 bh 4 z16 := (by rw [ez16, hkc.f (k := 18) (x := p0.toNatClampNeg) (by decide)]; exact hbn7 (by omega)); have hrs_z16 := hsk_z16.rng; have hk9_z16 := k29_r (na := na) (n := z16)
          refine px_callv (pr := []) (px_runV (As := [.int z16]) (rest := []) S (hLS ma0 mb ys ns nf l2 h2 w4 V vl vh X9 fi (lvq + 1) bh 4 h r g tf ta pf na wa cf ca xf xa ma_54 ef6 ea7 z16 (show 0 ≤ (tf 5).toInt from by first | exact g0 | omega) (show (tf 5).toInt ≤ 2048 from by first | exact g1 | omega) (show (pf 13).toInt ≤ 2100 from by first | exact g2 | omega) (show (tf 6).toInt ≤ 2049 from by first | exact g3 | omega) (show (cf 38).toInt = nf from by first | exact g4 | omega) (show 0 ≤ nf from by first | exact g5 | omega) (show 0 ≤ (ef6 60).toInt from by first | exact oz_2188d1bf01 e11 k54_5 g6 | omega) (show 0 ≤ fi from by first | exact g7 | omega) (show 1 ≤ X9.tall fi from by first | exact g8 | omega) (show bh ≤ X9.tall fi from by first | exact g9 | omega) (show (ef6 60).toInt + w4 ≤ 7000 + k29 na z16 from by first | with_reducible rfl | with_reducible assumption | omega) htk (FnT.eq hft (by omega)) hfp hab hkc htb hcx hsk_z16 _) hT (pr := []) (pcs := [wdP cs h r g tf ta pf na ma_54 wa cf ca ef6 ea7 xf xa]) hw (oX_call (P := (fun A U H => (oP A g U H))) (pr := []) oG_P hw hA hP) (px_recv hT hw 0 0 rfl rfl rfl) m13_126 m13_123 m13_125 ms_14_12 m1_21 q_Mpg_makeStatement ⟨show (5 * d + 12) + 1 ≤ (5 * d + 14) from by first | with_reducible rfl | with_reducible assumption | omega, show 8 + (4 + 11) + (200 * d + 500) ≤ (200 * d + 630) from by first | with_reducible rfl | with_reducible assumption | omega⟩ hl.1 rfl (Nat.le_of_ble_eq_true rfl) d_Mpg_makeLoop_149 ⟨Nat.le_of_ble_eq_true rfl, Nat.le_of_ble_eq_true rfl⟩) hw hA (fun p23 H locs hp23 hw => ?_)
          obtain ⟨ma20, ef21, ea22, rfl, e25, e26, e27, e28, e29, e30, e31⟩ := hp23
          replace e25 : (ef6 60).toInt ≤ (ef21 60).toInt := e25
          replace e26 : (ef21 60).toInt ≤ (ef6 60).toInt + w4 := e26
          replace e27 : CdK ea7 ea22 (ef6 60).toInt := e27
          have hcd := hcd.tr e27 (by omega)
          replace e28 : Kc na mb ma20 := e28
          have hkc := e28
          have han := hab.kc hkc
          have hts := htb.kc hkc
          replace e29 : FrL l2 h2 ma_54 ma20 := e29
          have hfl := hfl.tr e29 (by omega) (by omega)
          replace e30 : StQ X9 (ea22 61) (ef6 60).toInt (ef21 60).toInt fi [] (lvq + 1) 4 (ef6 64) (ef21 64) (ef6 65) (ef21 65) := e30
          replace e31 : StX na ma20 z16 (ef6 60).toInt (ef21 60).toInt (ef6 64).toInt (ef21 64).toInt (ef6 65).toInt (ef21 65).toInt := e31
          replace hw : pw D A s.heap H locs [wdP cs h r g tf ta pf na ma20 wa cf ca ef21 ea22 xf xa] := hw
          refine lv_aload_n S.x S.b d_Mpg_makeLoop_152 rfl (lv_at hl 2 rfl) ?_
          refine lv_aload_n S.x S.b d_Mpg_makeLoop_153 rfl (lv_at hl 2 rfl) ?_
          refine px_get S k_Mpg hT hw 0 0 65 (v := .int (ef21 65)) rfl rfl rfl (by decide) m10_65 d_Mpg_makeLoop_154 ?_
          refine lv_aload_n S.x S.b d_Mpg_makeLoop_157 rfl (lv_at hl 2 rfl) ?_
          refine px_get S k_Mpg hT hw 0 0 60 (v := .int (ef21 60)) rfl rfl rfl (by decide) m10_57 d_Mpg_makeLoop_158 ?_
          obtain ⟨l9, hcn9, hls9, hlb9⟩ := lpw_body (hlh.bq (by omega)) e14 e27 e30 (by omega) rfl (by omega) (by omega) (by omega); have hdc9 := hls9.1; have hlo9 : ∀ x ∈ l9, (ef 60).toInt ≤ (x : Int) := fun x hx => (by have := hls9.2 x hx; omega)
          refine px_callv (pr := []) (px_runV (As := [.int (ef21 65), .int (ef21 60)]) (rest := []) S (c_mp_landAll l D cs ((ef21 60).toInt).toNat l9 h r g tf ta pf na ma20 wa cf ca ef21 xf xa ea22 (ef21 65) (ef21 60)  (show ((ef21 60).toInt).toNat ≤ 7000 from by first | with_reducible rfl | with_reducible assumption | omega) (chn_k hcn9 (by omega)) (hdc9.up (by omega)) _) hT (pr := []) (pcs := [wdP cs h r g tf ta pf na ma20 wa cf ca ef21 ea22 xf xa]) hw px_X.tt (px_recv hT hw 0 0 rfl rfl rfl) m13_102 m13_99 m13_101 ms_14_6 m1_21 q_Mpg_landAll ⟨show 0 + 1 ≤ (5 * d + 14) from by first | with_reducible rfl | with_reducible assumption | omega, show 8 + (5 + 11) + 0 ≤ (200 * d + 630) from by first | with_reducible rfl | with_reducible assumption | omega⟩ hl.1 rfl (Nat.le_of_ble_eq_true rfl) d_Mpg_makeLoop_161 ⟨Nat.le_of_ble_eq_true rfl, Nat.le_of_ble_eq_true rfl⟩) hw hA (fun p34 H locs hp34 hw => ?_)
          obtain ⟨ea33, rfl, e36, e37⟩ := hp34
          replace e36 : EaK ea22 ea33 := e36
          skip
          replace e37 : LaA (ea22 61) (ea33 61) l9 (ef21 60) := e37
          have hcd := hcd.tr (EaK.cd e36 e37 hlo9) (Int.le_refl _)
          replace hw : pw D A s.heap H locs [wdP cs h r g tf ta pf na ma20 wa cf ca ef21 ea33 xf xa] := hw
          have hlb := hlb9 _ _ e37 (by omega)
          refine lv_iload S.x S.b d_Mpg_makeLoop_164 (lv_at hl 6 rfl) ?_
          refine lv_bipush (v := 26) S.x S.b d_Mpg_makeLoop_166 (by decide) ?_
          refine lv_icmp_ne (tgt := 190) S.x S.b d_Mpg_makeLoop_168 (by decide) (fun c38 => ?_) (fun c38 => ?_)
          · have nc38 : ¬ x54_4.toInt = (26 : Int) := mt (i_eq (x := x54_4) (y := 26)).mpr c38
            refine lv_iload S.x S.b d_Mpg_makeLoop_190 (lv_at hl 6 rfl) ?_
            refine lv_bipush (v := 27) S.x S.b d_Mpg_makeLoop_192 (by decide) ?_
            refine lv_icmp_ne (tgt := 225) S.x S.b d_Mpg_makeLoop_194 (by decide) (fun c39 => ?_) (fun c39 => ?_)
            · have nc39 : ¬ x54_4.toInt = (27 : Int) := mt (i_eq (x := x54_4) (y := 27)).mpr c39
              refine lv_aload_n S.x S.b d_Mpg_makeLoop_225 rfl (lv_at hl 2 rfl) ?_
              refine lv_bipush (v := 12) S.x S.b d_Mpg_makeLoop_226 (by decide) ?_
              refine lv_iload S.x S.b d_Mpg_makeLoop_228 (lv_at hl 1 rfl) ?_
              refine lv_iconst (v := 0) S.x S.b d_Mpg_makeLoop_230 (by decide) ?_
              refine px_calli (pr := []) (px_runV (As := [.int 12, .int (ef_54 60), .int 0]) (rest := []) S (c_mp_emit l D cs h r g tf ta pf na ma20 wa cf ca xf xa ef21 ea33 12 (ef_54 60) 0  (show 0 ≤ (ef21 60).toInt from by first | exact oz_6501cbe7e5 e25 e11 k54_5 g6 | omega) (show (ef21 60).toInt < 7000 from by first | with_reducible rfl | with_reducible assumption | omega) _) hT (pr := []) (pcs := [wdP cs h r g tf ta pf na ma20 wa cf ca ef21 ea33 xf xa]) hw px_X.tt (px_recv hT hw 0 0 rfl rfl rfl) m13_86 m13_83 m13_85 ms_14_2 m1_21 q_Mpg_emit ⟨show 0 + 1 ≤ (5 * d + 14) from by first | with_reducible rfl | with_reducible assumption | omega, show 8 + (4 + 11) + 0 ≤ (200 * d + 630) from by first | with_reducible rfl | with_reducible assumption | omega⟩ hl.1 rfl (Nat.le_of_ble_eq_true rfl) d_Mpg_makeLoop_231 ⟨Nat.le_of_ble_eq_true rfl, Nat.le_of_ble_eq_true rfl⟩) hw hA (fun v45 p44 H locs hp44 hw => ?_)
              obtain ⟨ef42, ea43, rfl, e46, e47, e48, e49, e50⟩ := hp44
              replace e46 : v45.toInt = (ef21 60).toInt := e46
              replace e47 : (ef42 60).toInt = (ef21 60).toInt + 1 := e47
              replace e48 : (ef42 64).toInt = (ef21 64).toInt := e48
              replace e49 : (ef42 65).toInt = (ef21 65).toInt := e49
              replace e50 : EmU ea33 ea43 (ef21 60) (12 : Int32) (ef_54 60) (0 : Int32) := e50
              have hcd := hcd.tr e50.cd (by omega)
              have hle := lpw_go hlb CdK.rf (sgq_0 (by omega)) e50 rfl (by omega) rfl (by omega) rfl (by omega)
              replace hw : pw D A s.heap H locs [wdP cs h r g tf ta pf na ma20 wa cf ca ef42 ea43 xf xa] := hw
              have lv45 := Int32.le_toInt v45
              have uv45 := Int32.toInt_lt v45
              refine lv_pop S.x S.b d_Mpg_makeLoop_234 rfl ?_
              refine lv_aload_n S.x S.b d_Mpg_makeLoop_235 rfl (lv_at hl 2 rfl) ?_
              refine lv_aload_n S.x S.b d_Mpg_makeLoop_236 rfl (lv_at hl 2 rfl) ?_
              refine px_get S k_Mpg hT hw 0 0 64 (v := .int (ef42 64)) rfl rfl rfl (by decide) m10_64 d_Mpg_makeLoop_237 ?_
              refine lv_aload_n S.x S.b d_Mpg_makeLoop_240 rfl (lv_at hl 2 rfl) ?_
              refine px_get S k_Mpg hT hw 0 0 60 (v := .int (ef42 60)) rfl rfl rfl (by decide) m10_57 d_Mpg_makeLoop_241 ?_
              obtain ⟨hls0, l9, hcn9, hls9, hst9⟩ := hle; have hdc9 := hls9.1; have hlo9 : ∀ x ∈ l9, (ef 60).toInt ≤ (x : Int) := fun x hx => (by have := hls9.2 x hx; omega)
              refine px_callv (pr := []) (px_runV (As := [.int (ef42 64), .int (ef42 60)]) (rest := []) S (c_mp_landAll l D cs ((ef42 60).toInt).toNat l9 h r g tf ta pf na ma20 wa cf ca ef42 xf xa ea43 (ef42 64) (ef42 60)  (show ((ef42 60).toInt).toNat ≤ 7000 from by first | with_reducible rfl | with_reducible assumption | omega) (chn_k hcn9 (by omega)) (hdc9.up (by omega)) _) hT (pr := []) (pcs := [wdP cs h r g tf ta pf na ma20 wa cf ca ef42 ea43 xf xa]) hw px_X.tt (px_recv hT hw 0 0 rfl rfl rfl) m13_102 m13_99 m13_101 ms_14_6 m1_21 q_Mpg_landAll ⟨show 0 + 1 ≤ (5 * d + 14) from by first | with_reducible rfl | with_reducible assumption | omega, show 8 + (5 + 11) + 0 ≤ (200 * d + 630) from by first | with_reducible rfl | with_reducible assumption | omega⟩ hl.1 rfl (Nat.le_of_ble_eq_true rfl) d_Mpg_makeLoop_244 ⟨Nat.le_of_ble_eq_true rfl, Nat.le_of_ble_eq_true rfl⟩) hw hA (fun p53 H locs hp53 hw => ?_)
              obtain ⟨ea52, rfl, e55, e56⟩ := hp53
              replace e55 : EaK ea43 ea52 := e55
              skip
              replace e56 : LaA (ea43 61) (ea52 61) l9 (ef42 60) := e56
              have hcd := hcd.tr (EaK.cd e55 e56 hlo9) (Int.le_refl _)
              replace hw : pw D A s.heap H locs [wdP cs h r g tf ta pf na ma20 wa cf ca ef42 ea52 xf xa] := hw
              refine lv_aload_n S.x S.b d_Mpg_makeLoop_247 rfl (lv_at hl 2 rfl) ?_
              refine lv_iload_n S.x S.b d_Mpg_makeLoop_248 rfl (lv_at hl 4 rfl) ?_
              refine px_put S k_Mpg hT hw 0 0 64 rfl rfl (by decide) m10_64 rfl rfl rfl (Nat.le_of_ble_eq_true rfl) d_Mpg_makeLoop_249 (w' := wdP cs h r g tf ta pf na ma20 wa cf ca (upd ef42 64 x54_2) ea52 xf xa) (ps' := [wdP cs h r g tf ta pf na ma20 wa cf ca (upd ef42 64 x54_2) ea52 xf xa]) rfl rfl (fun H locs hw => ?_)
              obtain ⟨ef57, hu_ef57⟩ : ∃ y : Nat → Int32, y = upd ef42 64 x54_2 := ⟨_, rfl⟩; have hw : pw D A s.heap _ _ [wdP cs h r g tf ta pf na ma20 wa cf ca ef57 ea52 xf xa] := (by rw [hu_ef57]; exact hw); have hn60_ef57 : (ef57 60).toInt = (ef42 60).toInt := (by rw [hu_ef57, pk_un (by decide)]); have hn64_ef57 : (ef57 64).toInt = x54_2.toInt := (by rw [hu_ef57, pk_us]); have hn65_ef57 : (ef57 65).toInt = (ef42 65).toInt := (by rw [hu_ef57, pk_un (by decide)])
              refine lv_aload_n S.x S.b d_Mpg_makeLoop_252 rfl (lv_at hl 2 rfl) ?_
              refine lv_iload_n S.x S.b d_Mpg_makeLoop_253 rfl (lv_at hl 5 rfl) ?_
              refine px_put S k_Mpg hT hw 0 0 65 rfl rfl (by decide) m10_65 rfl rfl rfl (Nat.le_of_ble_eq_true rfl) d_Mpg_makeLoop_254 (w' := wdP cs h r g tf ta pf na ma20 wa cf ca (upd ef57 65 x54_3) ea52 xf xa) (ps' := [wdP cs h r g tf ta pf na ma20 wa cf ca (upd ef57 65 x54_3) ea52 xf xa]) rfl rfl (fun H locs hw => ?_)
              obtain ⟨ef58, hu_ef58⟩ : ∃ y : Nat → Int32, y = upd ef57 65 x54_3 := ⟨_, rfl⟩; have hw : pw D A s.heap _ _ [wdP cs h r g tf ta pf na ma20 wa cf ca ef58 ea52 xf xa] := (by rw [hu_ef58]; exact hw); have hn60_ef58 : (ef58 60).toInt = (ef57 60).toInt := (by rw [hu_ef58, pk_un (by decide)]); have hn64_ef58 : (ef58 64).toInt = (ef57 64).toInt := (by rw [hu_ef58, pk_un (by decide)]); have hn65_ef58 : (ef58 65).toInt = x54_3.toInt := (by rw [hu_ef58, pk_us])
              exact px_vret S hr hlk hAe hw (Nat.le_of_ble_eq_true rfl) (Nat.le_of_ble_eq_true rfl) (⟨ma20, ef58, ea52, rfl, (show (ef 60).toInt ≤ (ef58 60).toInt from by first | exact oz_99977282f0 k54_5 hn60_ef58 e11 hn60_ef57 e25 e47 | omega), (show (ef58 60).toInt ≤ (ef 60).toInt + wt from by first | with_reducible rfl | with_reducible assumption | omega), (show CdK ea ea52 (ef 60).toInt from hcd), (show Kc na mb ma20 from hkc), (show FrL lo hi ma ma20 from hfl), (show StQ X9 (ea52 61) (ef 60).toInt (ef58 60).toInt fi [] lvq t9 (ef 64) (ef58 64) (ef 65) (ef58 65) from ((hst9 _ _ e56 (by omega) t9 (ef 64) (ef 64) (ef 65) (ef 65) rfl rfl).tq (by omega) (by omega) (by omega) (by omega) (by omega) (by omega)))⟩) d_Mpg_makeLoop_257
            · have nc39 : x54_4.toInt = (27 : Int) := (i_eq (x := x54_4) (y := 27)).mp c39
              exfalso
              omega
          · have nc38 : x54_4.toInt = (26 : Int) := (i_eq (x := x54_4) (y := 26)).mp c38
            refine lv_aload_n S.x S.b d_Mpg_makeLoop_171 rfl (lv_at hl 2 rfl) ?_
            refine lv_iload S.x S.b d_Mpg_makeLoop_172 (lv_at hl 0 rfl) ?_
            have hmk_z2 : MkB ta (tf 6).toInt na ma0 ma20 ca (V1 V) d (pf 13).toInt w2 bh z2 := (by rw [ez2]; exact (hcn7 (by omega)).kc hkc); have hec_z2 := hmk_z2.ec; have hrg_z2 := EcV.rng hec_z2; have hnn_z2 := hmk_z2.nn
            refine px_callv (pr := []) (px_runV (As := [.int z2]) (rest := []) S (c_S_make l D cs ma0 ys ns nf d w2 (V1 V) vl vh X9 fi [] (lvq + 1) bh h r g tf ta pf na ma20 wa cf ca xf xa ef21 ea33 z2  (show (pf 13).toInt ≤ 2100 from by first | exact g2 | omega) (show (tf 6).toInt ≤ 2049 from by first | exact g3 | omega) (show (cf 38).toInt = nf from by first | exact g4 | omega) (show 0 ≤ nf from by first | exact g5 | omega) (show 0 ≤ (ef21 60).toInt from by first | exact oz_6501cbe7e5 e25 e11 k54_5 g6 | omega) (show (ef21 60).toInt + w2 ≤ 7000 from by first | with_reducible rfl | with_reducible assumption | omega) (show ([].length : Int) + bh ≤ X9.tall fi from by first | with_reducible rfl | with_reducible assumption | omega) htk (FnT.eq hft (by omega)) hfp han hts hcx hmk_z2 _) hT (pr := []) (pcs := [wdP cs h r g tf ta pf na ma20 wa cf ca ef21 ea33 xf xa]) hw (oX_call (P := (fun A U H => (oP A g U H))) (pr := []) oG_P hw hA hP) (px_recv hT hw 0 0 rfl rfl rfl) m13_90 m13_87 m13_89 ms_14_3 m1_21 q_Mpg_make2 ⟨show (2 * d + 10) + 1 ≤ (5 * d + 14) from by first | with_reducible rfl | with_reducible assumption | omega, show 8 + (8 + 11) + (120 * d + 320) ≤ (200 * d + 630) from by first | with_reducible rfl | with_reducible assumption | omega⟩ hl.1 rfl (Nat.le_of_ble_eq_true rfl) d_Mpg_makeLoop_174 ⟨Nat.le_of_ble_eq_true rfl, Nat.le_of_ble_eq_true rfl⟩) hw hA (fun p63 H locs hp63 hw => ?_)
            obtain ⟨ef61, ea62, rfl, e65, e66, e67, e68, e69, e70⟩ := hp63
            replace e65 : (ef21 60).toInt ≤ (ef61 60).toInt := e65
            replace e66 : (ef61 60).toInt ≤ (ef21 60).toInt + w2 := e66
            replace e67 : (ef61 64).toInt = (ef21 64).toInt := e67
            replace e68 : (ef61 65).toInt = (ef21 65).toInt := e68
            replace e69 : CdK ea33 ea62 (ef21 60).toInt := e69
            have hcd := hcd.tr e69 (by omega)
            replace e70 : SgQ X9 (ea62 61) (ef21 60).toInt (ef61 60).toInt fi [] (0 :: []) (lvq + 1) := e70
            replace hw : pw D A s.heap H locs [wdP cs h r g tf ta pf na ma20 wa cf ca ef61 ea62 xf xa] := hw
            refine lv_aload_n S.x S.b d_Mpg_makeLoop_177 rfl (lv_at hl 2 rfl) ?_
            refine lv_bipush (v := 14) S.x S.b d_Mpg_makeLoop_178 (by decide) ?_
            refine lv_iload S.x S.b d_Mpg_makeLoop_180 (lv_at hl 1 rfl) ?_
            refine lv_iconst (v := 0) S.x S.b d_Mpg_makeLoop_182 (by decide) ?_
            refine px_calli (pr := []) (px_runV (As := [.int 14, .int (ef_54 60), .int 0]) (rest := []) S (c_mp_emit l D cs h r g tf ta pf na ma20 wa cf ca xf xa ef61 ea62 14 (ef_54 60) 0  (show 0 ≤ (ef61 60).toInt from by first | exact oz_b36c82e845 e65 e25 e11 k54_5 g6 | omega) (show (ef61 60).toInt < 7000 from by first | with_reducible rfl | with_reducible assumption | omega) _) hT (pr := []) (pcs := [wdP cs h r g tf ta pf na ma20 wa cf ca ef61 ea62 xf xa]) hw px_X.tt (px_recv hT hw 0 0 rfl rfl rfl) m13_86 m13_83 m13_85 ms_14_2 m1_21 q_Mpg_emit ⟨show 0 + 1 ≤ (5 * d + 14) from by first | with_reducible rfl | with_reducible assumption | omega, show 8 + (4 + 11) + 0 ≤ (200 * d + 630) from by first | with_reducible rfl | with_reducible assumption | omega⟩ hl.1 rfl (Nat.le_of_ble_eq_true rfl) d_Mpg_makeLoop_183 ⟨Nat.le_of_ble_eq_true rfl, Nat.le_of_ble_eq_true rfl⟩) hw hA (fun v76 p75 H locs hp75 hw => ?_)
            obtain ⟨ef73, ea74, rfl, e77, e78, e79, e80, e81⟩ := hp75
            replace e77 : v76.toInt = (ef61 60).toInt := e77
            replace e78 : (ef73 60).toInt = (ef61 60).toInt + 1 := e78
            replace e79 : (ef73 64).toInt = (ef61 64).toInt := e79
            replace e80 : (ef73 65).toInt = (ef61 65).toInt := e80
            replace e81 : EmU ea62 ea74 (ef61 60) (14 : Int32) (ef_54 60) (0 : Int32) := e81
            have hcd := hcd.tr e81.cd (by omega)
            have hle := lpw_do hlb e69 e70 e81 (by omega) (by omega) rfl (by omega) rfl (by omega)
            replace hw : pw D A s.heap H locs [wdP cs h r g tf ta pf na ma20 wa cf ca ef73 ea74 xf xa] := hw
            have lv76 := Int32.le_toInt v76
            have uv76 := Int32.toInt_lt v76
            refine lv_pop S.x S.b d_Mpg_makeLoop_186 rfl ?_
            refine lv_goto (tgt := 235) S.x S.b d_Mpg_makeLoop_187 (by decide) ?_
            refine lv_aload_n S.x S.b d_Mpg_makeLoop_235 rfl (lv_at hl 2 rfl) ?_
            refine lv_aload_n S.x S.b d_Mpg_makeLoop_236 rfl (lv_at hl 2 rfl) ?_
            refine px_get S k_Mpg hT hw 0 0 64 (v := .int (ef73 64)) rfl rfl rfl (by decide) m10_64 d_Mpg_makeLoop_237 ?_
            refine lv_aload_n S.x S.b d_Mpg_makeLoop_240 rfl (lv_at hl 2 rfl) ?_
            refine px_get S k_Mpg hT hw 0 0 60 (v := .int (ef73 60)) rfl rfl rfl (by decide) m10_57 d_Mpg_makeLoop_241 ?_
            obtain ⟨hls0, l9, hcn9, hls9, hst9⟩ := hle; have hdc9 := hls9.1; have hlo9 : ∀ x ∈ l9, (ef 60).toInt ≤ (x : Int) := fun x hx => (by have := hls9.2 x hx; omega)
            refine px_callv (pr := []) (px_runV (As := [.int (ef73 64), .int (ef73 60)]) (rest := []) S (c_mp_landAll l D cs ((ef73 60).toInt).toNat l9 h r g tf ta pf na ma20 wa cf ca ef73 xf xa ea74 (ef73 64) (ef73 60)  (show ((ef73 60).toInt).toNat ≤ 7000 from by first | with_reducible rfl | with_reducible assumption | omega) (chn_k hcn9 (by omega)) (hdc9.up (by omega)) _) hT (pr := []) (pcs := [wdP cs h r g tf ta pf na ma20 wa cf ca ef73 ea74 xf xa]) hw px_X.tt (px_recv hT hw 0 0 rfl rfl rfl) m13_102 m13_99 m13_101 ms_14_6 m1_21 q_Mpg_landAll ⟨show 0 + 1 ≤ (5 * d + 14) from by first | with_reducible rfl | with_reducible assumption | omega, show 8 + (5 + 11) + 0 ≤ (200 * d + 630) from by first | with_reducible rfl | with_reducible assumption | omega⟩ hl.1 rfl (Nat.le_of_ble_eq_true rfl) d_Mpg_makeLoop_244 ⟨Nat.le_of_ble_eq_true rfl, Nat.le_of_ble_eq_true rfl⟩) hw hA (fun p84 H locs hp84 hw => ?_)
            obtain ⟨ea83, rfl, e86, e87⟩ := hp84
            replace e86 : EaK ea74 ea83 := e86
            skip
            replace e87 : LaA (ea74 61) (ea83 61) l9 (ef73 60) := e87
            have hcd := hcd.tr (EaK.cd e86 e87 hlo9) (Int.le_refl _)
            replace hw : pw D A s.heap H locs [wdP cs h r g tf ta pf na ma20 wa cf ca ef73 ea83 xf xa] := hw
            refine lv_aload_n S.x S.b d_Mpg_makeLoop_247 rfl (lv_at hl 2 rfl) ?_
            refine lv_iload_n S.x S.b d_Mpg_makeLoop_248 rfl (lv_at hl 4 rfl) ?_
            refine px_put S k_Mpg hT hw 0 0 64 rfl rfl (by decide) m10_64 rfl rfl rfl (Nat.le_of_ble_eq_true rfl) d_Mpg_makeLoop_249 (w' := wdP cs h r g tf ta pf na ma20 wa cf ca (upd ef73 64 x54_2) ea83 xf xa) (ps' := [wdP cs h r g tf ta pf na ma20 wa cf ca (upd ef73 64 x54_2) ea83 xf xa]) rfl rfl (fun H locs hw => ?_)
            obtain ⟨ef88, hu_ef88⟩ : ∃ y : Nat → Int32, y = upd ef73 64 x54_2 := ⟨_, rfl⟩; have hw : pw D A s.heap _ _ [wdP cs h r g tf ta pf na ma20 wa cf ca ef88 ea83 xf xa] := (by rw [hu_ef88]; exact hw); have hn60_ef88 : (ef88 60).toInt = (ef73 60).toInt := (by rw [hu_ef88, pk_un (by decide)]); have hn64_ef88 : (ef88 64).toInt = x54_2.toInt := (by rw [hu_ef88, pk_us]); have hn65_ef88 : (ef88 65).toInt = (ef73 65).toInt := (by rw [hu_ef88, pk_un (by decide)])
            refine lv_aload_n S.x S.b d_Mpg_makeLoop_252 rfl (lv_at hl 2 rfl) ?_
            refine lv_iload_n S.x S.b d_Mpg_makeLoop_253 rfl (lv_at hl 5 rfl) ?_
            refine px_put S k_Mpg hT hw 0 0 65 rfl rfl (by decide) m10_65 rfl rfl rfl (Nat.le_of_ble_eq_true rfl) d_Mpg_makeLoop_254 (w' := wdP cs h r g tf ta pf na ma20 wa cf ca (upd ef88 65 x54_3) ea83 xf xa) (ps' := [wdP cs h r g tf ta pf na ma20 wa cf ca (upd ef88 65 x54_3) ea83 xf xa]) rfl rfl (fun H locs hw => ?_)
            obtain ⟨ef89, hu_ef89⟩ : ∃ y : Nat → Int32, y = upd ef88 65 x54_3 := ⟨_, rfl⟩; have hw : pw D A s.heap _ _ [wdP cs h r g tf ta pf na ma20 wa cf ca ef89 ea83 xf xa] := (by rw [hu_ef89]; exact hw); have hn60_ef89 : (ef89 60).toInt = (ef88 60).toInt := (by rw [hu_ef89, pk_un (by decide)]); have hn64_ef89 : (ef89 64).toInt = (ef88 64).toInt := (by rw [hu_ef89, pk_un (by decide)]); have hn65_ef89 : (ef89 65).toInt = x54_3.toInt := (by rw [hu_ef89, pk_us])
            exact px_vret S hr hlk hAe hw (Nat.le_of_ble_eq_true rfl) (Nat.le_of_ble_eq_true rfl) (⟨ma20, ef89, ea83, rfl, (show (ef 60).toInt ≤ (ef89 60).toInt from by first | exact oz_96eeca19ff k54_5 hn60_ef89 e11 hn60_ef88 e25 e78 e65 | omega), (show (ef89 60).toInt ≤ (ef 60).toInt + wt from by first | with_reducible rfl | with_reducible assumption | omega), (show CdK ea ea83 (ef 60).toInt from hcd), (show Kc na mb ma20 from hkc), (show FrL lo hi ma ma20 from hfl), (show StQ X9 (ea83 61) (ef 60).toInt (ef89 60).toInt fi [] lvq t9 (ef 64) (ef89 64) (ef 65) (ef89 65) from ((hst9 _ _ e87 (by omega) t9 (ef 64) (ef 64) (ef 65) (ef 65) rfl rfl).tq (by omega) (by omega) (by omega) (by omega) (by omega) (by omega)))⟩) d_Mpg_makeLoop_257
        · have nc15 : x54_4.toInt = (27 : Int) := (i_eq (x := x54_4) (y := 27)).mp c15
          exfalso
          omega
      · have nc3 : ¬ x54_4.toInt = (26 : Int) := mt (i_eq (x := x54_4) (y := 26)).mpr c3
        refine lv_iload S.x S.b d_Mpg_makeLoop_91 (lv_at hl 0 rfl) ?_
        refine lv_if_lt (tgt := 117) S.x S.b d_Mpg_makeLoop_93 (by decide) (fun c90 => ?_) (fun c90 => ?_)
        · have nc90 : z2.toInt < (0 : Int) := (i_lt (x := z2) (y := 0)).mp c90
          exfalso
          omega
        · have nc90 : ¬ z2.toInt < (0 : Int) := mt (i_lt (x := z2) (y := 0)).mpr c90
          refine lv_aload_n S.x S.b d_Mpg_makeLoop_96 rfl (lv_at hl 2 rfl) ?_
          refine lv_iload S.x S.b d_Mpg_makeLoop_97 (lv_at hl 0 rfl) ?_
          refine px_callv (pr := []) (px_runV (As := [.int z2]) (rest := []) S (c_S_make l D cs ma0 ys ns nf d w2 (V1 V) vl vh X9 fi [] lvq bh h r g tf ta pf na ma_54 wa cf ca xf xa ef_54 ea_54 z2  (show (pf 13).toInt ≤ 2100 from by first | exact g2 | omega) (show (tf 6).toInt ≤ 2049 from by first | exact g3 | omega) (show (cf 38).toInt = nf from by first | exact g4 | omega) (show 0 ≤ nf from by first | exact g5 | omega) (show 0 ≤ (ef_54 60).toInt from by first | exact oz_16d7fa9f32 k54_5 g6 | omega) (show (ef_54 60).toInt + w2 ≤ 7000 from by first | with_reducible rfl | with_reducible assumption | omega) (show ([].length : Int) + bh ≤ X9.tall fi from by first | with_reducible rfl | with_reducible assumption | omega) htk (FnT.eq hft (by omega)) hfp han hts hcx hmk_z2 _) hT (pr := []) (pcs := [wdP cs h r g tf ta pf na ma_54 wa cf ca ef_54 ea_54 xf xa]) hw (oX_call (P := (fun A U H => (oP A g U H))) (pr := []) oG_P hw hA hP) (px_recv hT hw 0 0 rfl rfl rfl) m13_90 m13_87 m13_89 ms_14_3 m1_21 q_Mpg_make2 ⟨show (2 * d + 10) + 1 ≤ (5 * d + 14) from by first | with_reducible rfl | with_reducible assumption | omega, show 8 + (8 + 11) + (120 * d + 320) ≤ (200 * d + 630) from by first | with_reducible rfl | with_reducible assumption | omega⟩ hl.1 rfl (Nat.le_of_ble_eq_true rfl) d_Mpg_makeLoop_99 ⟨Nat.le_of_ble_eq_true rfl, Nat.le_of_ble_eq_true rfl⟩) hw hA (fun p95 H locs hp95 hw => ?_)
          obtain ⟨ef93, ea94, rfl, e97, e98, e99, e100, e101, e102⟩ := hp95
          replace e97 : (ef_54 60).toInt ≤ (ef93 60).toInt := e97
          replace e98 : (ef93 60).toInt ≤ (ef_54 60).toInt + w2 := e98
          replace e99 : (ef93 64).toInt = (ef_54 64).toInt := e99
          replace e100 : (ef93 65).toInt = (ef_54 65).toInt := e100
          replace e101 : CdK ea_54 ea94 (ef_54 60).toInt := e101
          have hcd := hcd.tr e101 (by omega)
          replace e102 : SgQ X9 (ea94 61) (ef_54 60).toInt (ef93 60).toInt fi [] (0 :: []) lvq := e102
          replace hw : pw D A s.heap H locs [wdP cs h r g tf ta pf na ma_54 wa cf ca ef93 ea94 xf xa] := hw
          refine lv_aload_n S.x S.b d_Mpg_makeLoop_102 rfl (lv_at hl 2 rfl) ?_
          refine lv_aload_n S.x S.b d_Mpg_makeLoop_103 rfl (lv_at hl 2 rfl) ?_
          refine lv_bipush (v := 13) S.x S.b d_Mpg_makeLoop_104 (by decide) ?_
          refine lv_aload_n S.x S.b d_Mpg_makeLoop_106 rfl (lv_at hl 2 rfl) ?_
          refine px_get S k_Mpg hT hw 0 0 64 (v := .int (ef93 64)) rfl rfl rfl (by decide) m10_64 d_Mpg_makeLoop_107 ?_
          refine lv_iconst (v := 0) S.x S.b d_Mpg_makeLoop_110 (by decide) ?_
          refine px_calli (pr := []) (px_runV (As := [.int 13, .int (ef93 64), .int 0]) (rest := [.ref h]) S (c_mp_emit l D cs h r g tf ta pf na ma_54 wa cf ca xf xa ef93 ea94 13 (ef93 64) 0  (show 0 ≤ (ef93 60).toInt from by first | exact oz_fe2fd2b0f6 e97 k54_5 g6 | omega) (show (ef93 60).toInt < 7000 from by first | with_reducible rfl | with_reducible assumption | omega) _) hT (pr := []) (pcs := [wdP cs h r g tf ta pf na ma_54 wa cf ca ef93 ea94 xf xa]) hw px_X.tt (px_recv hT hw 0 0 rfl rfl rfl) m13_86 m13_83 m13_85 ms_14_2 m1_21 q_Mpg_emit ⟨show 0 + 1 ≤ (5 * d + 14) from by first | with_reducible rfl | with_reducible assumption | omega, show 8 + (4 + 11) + 0 ≤ (200 * d + 630) from by first | with_reducible rfl | with_reducible assumption | omega⟩ hl.1 rfl (Nat.le_of_ble_eq_true rfl) d_Mpg_makeLoop_111 ⟨Nat.le_of_ble_eq_true rfl, Nat.le_of_ble_eq_true rfl⟩) hw hA (fun v108 p107 H locs hp107 hw => ?_)
          obtain ⟨ef105, ea106, rfl, e109, e110, e111, e112, e113⟩ := hp107
          replace e109 : v108.toInt = (ef93 60).toInt := e109
          replace e110 : (ef105 60).toInt = (ef93 60).toInt + 1 := e110
          replace e111 : (ef105 64).toInt = (ef93 64).toInt := e111
          replace e112 : (ef105 65).toInt = (ef93 65).toInt := e112
          replace e113 : EmU ea94 ea106 (ef93 60) (13 : Int32) (ef93 64) (0 : Int32) := e113
          have hcd := hcd.tr e113.cd (by omega)
          have hlh := lpw_ask hlh e101 e102 e113 (by omega) (by omega) (by omega) rfl (by omega) rfl (by omega) (by omega)
          replace hw : pw D A s.heap H locs [wdP cs h r g tf ta pf na ma_54 wa cf ca ef105 ea106 xf xa] := hw
          have lv108 := Int32.le_toInt v108
          have uv108 := Int32.toInt_lt v108
          refine px_put S k_Mpg hT hw 0 0 64 rfl rfl (by decide) m10_64 rfl rfl rfl (Nat.le_of_ble_eq_true rfl) d_Mpg_makeLoop_114 (w' := wdP cs h r g tf ta pf na ma_54 wa cf ca (upd ef105 64 v108) ea106 xf xa) (ps' := [wdP cs h r g tf ta pf na ma_54 wa cf ca (upd ef105 64 v108) ea106 xf xa]) rfl rfl (fun H locs hw => ?_)
          obtain ⟨ef114, hu_ef114⟩ : ∃ y : Nat → Int32, y = upd ef105 64 v108 := ⟨_, rfl⟩; have hw : pw D A s.heap _ _ [wdP cs h r g tf ta pf na ma_54 wa cf ca ef114 ea106 xf xa] := (by rw [hu_ef114]; exact hw); have hn60_ef114 : (ef114 60).toInt = (ef105 60).toInt := (by rw [hu_ef114, pk_un (by decide)]); have hn64_ef114 : (ef114 64).toInt = v108.toInt := (by rw [hu_ef114, pk_us]); have hn65_ef114 : (ef114 65).toInt = (ef105 65).toInt := (by rw [hu_ef114, pk_un (by decide)])
          refine lv_aload_n S.x S.b d_Mpg_makeLoop_117 rfl (lv_at hl 2 rfl) ?_
          refine lv_bipush (v := 19) S.x S.b d_Mpg_makeLoop_118 (by decide) ?_
          refine lv_iconst (v := 0) S.x S.b d_Mpg_makeLoop_120 (by decide) ?_
          refine lv_iconst (v := 0) S.x S.b d_Mpg_makeLoop_121 (by decide) ?_
          refine px_calli (pr := []) (px_runV (As := [.int 19, .int 0, .int 0]) (rest := []) S (c_mp_emit l D cs h r g tf ta pf na ma_54 wa cf ca xf xa ef114 ea106 19 0 0  (show 0 ≤ (ef114 60).toInt from by first | exact oz_086d681647 hn60_ef114 e110 e97 k54_5 g6 | omega) (show (ef114 60).toInt < 7000 from by first | with_reducible rfl | with_reducible assumption | omega) _) hT (pr := []) (pcs := [wdP cs h r g tf ta pf na ma_54 wa cf ca ef114 ea106 xf xa]) hw px_X.tt (px_recv hT hw 0 0 rfl rfl rfl) m13_86 m13_83 m13_85 ms_14_2 m1_21 q_Mpg_emit ⟨show 0 + 1 ≤ (5 * d + 14) from by first | with_reducible rfl | with_reducible assumption | omega, show 8 + (4 + 11) + 0 ≤ (200 * d + 630) from by first | with_reducible rfl | with_reducible assumption | omega⟩ hl.1 rfl (Nat.le_of_ble_eq_true rfl) d_Mpg_makeLoop_122 ⟨Nat.le_of_ble_eq_true rfl, Nat.le_of_ble_eq_true rfl⟩) hw hA (fun v120 p119 H locs hp119 hw => ?_)
          obtain ⟨ef117, ea118, rfl, e121, e122, e123, e124, e125⟩ := hp119
          replace e121 : v120.toInt = (ef114 60).toInt := e121
          replace e122 : (ef117 60).toInt = (ef114 60).toInt + 1 := e122
          replace e123 : (ef117 64).toInt = (ef114 64).toInt := e123
          replace e124 : (ef117 65).toInt = (ef114 65).toInt := e124
          replace e125 : EmU ea106 ea118 (ef114 60) (19 : Int32) (0 : Int32) (0 : Int32) := e125
          have hcd := hcd.tr e125.cd (by omega)
          replace hw : pw D A s.heap H locs [wdP cs h r g tf ta pf na ma_54 wa cf ca ef117 ea118 xf xa] := hw
          have lv120 := Int32.le_toInt v120
          have uv120 := Int32.toInt_lt v120
          refine lv_pop S.x S.b d_Mpg_makeLoop_125 rfl ?_
          refine lv_aload_n S.x S.b d_Mpg_makeLoop_126 rfl (lv_at hl 2 rfl) ?_
          refine lv_iload S.x S.b d_Mpg_makeLoop_127 (lv_at hl 6 rfl) ?_
          refine lv_bipush (v := 27) S.x S.b d_Mpg_makeLoop_129 (by decide) ?_
          refine lv_icmp_ne (tgt := 143) S.x S.b d_Mpg_makeLoop_131 (by decide) (fun c126 => ?_) (fun c126 => ?_)
          · have nc126 : ¬ x54_4.toInt = (27 : Int) := mt (i_eq (x := x54_4) (y := 27)).mpr c126
            refine lv_aload_n S.x S.b d_Mpg_makeLoop_143 rfl (lv_at hl 2 rfl) ?_
            refine px_get S k_Mpg hT hw 0 0 18 (v := .ref (r 18)) rfl rfl rfl (by decide) m10_3 d_Mpg_makeLoop_144 ?_
            refine lv_iload_n S.x S.b d_Mpg_makeLoop_147 rfl (lv_at hl 3 rfl) ?_
            refine px_iald S hT hw 0 14 (n := 2100) (f := (ma_54 18)) rfl gp_18 (x := p0) (vp_in_iff.mpr (by constructor <;> omega)) d_Mpg_makeLoop_148 ?_
            refine lv_topi (fun z127 ez127 => ?_)
            have lz127 := Int32.le_toInt z127
            have uz127 := Int32.toInt_lt z127
            have hsk_z127 : SkB ta (tf 6).toInt na ma0 mb ca V d (pf 13).toInt l2 h2 w4 bh 4 z127 := (by rw [ez127, hkc.f (k := 18) (x := p0.toNatClampNeg) (by decide)]; exact hbn7 (by omega)); have hrs_z127 := hsk_z127.rng; have hk9_z127 := k29_r (na := na) (n := z127)
            refine px_callv (pr := []) (px_runV (As := [.int z127]) (rest := []) S (hLS ma0 mb ys ns nf l2 h2 w4 V vl vh X9 fi (lvq + 1) bh 4 h r g tf ta pf na wa cf ca xf xa ma_54 ef117 ea118 z127 (show 0 ≤ (tf 5).toInt from by first | exact g0 | omega) (show (tf 5).toInt ≤ 2048 from by first | exact g1 | omega) (show (pf 13).toInt ≤ 2100 from by first | exact g2 | omega) (show (tf 6).toInt ≤ 2049 from by first | exact g3 | omega) (show (cf 38).toInt = nf from by first | exact g4 | omega) (show 0 ≤ nf from by first | exact g5 | omega) (show 0 ≤ (ef117 60).toInt from by first | exact oz_4aff4f3d78 e122 hn60_ef114 e110 e97 k54_5 g6 | omega) (show 0 ≤ fi from by first | exact g7 | omega) (show 1 ≤ X9.tall fi from by first | exact g8 | omega) (show bh ≤ X9.tall fi from by first | exact g9 | omega) (show (ef117 60).toInt + w4 ≤ 7000 + k29 na z127 from by first | with_reducible rfl | with_reducible assumption | omega) htk (FnT.eq hft (by omega)) hfp hab hkc htb hcx hsk_z127 _) hT (pr := []) (pcs := [wdP cs h r g tf ta pf na ma_54 wa cf ca ef117 ea118 xf xa]) hw (oX_call (P := (fun A U H => (oP A g U H))) (pr := []) oG_P hw hA hP) (px_recv hT hw 0 0 rfl rfl rfl) m13_126 m13_123 m13_125 ms_14_12 m1_21 q_Mpg_makeStatement ⟨show (5 * d + 12) + 1 ≤ (5 * d + 14) from by first | with_reducible rfl | with_reducible assumption | omega, show 8 + (4 + 11) + (200 * d + 500) ≤ (200 * d + 630) from by first | with_reducible rfl | with_reducible assumption | omega⟩ hl.1 rfl (Nat.le_of_ble_eq_true rfl) d_Mpg_makeLoop_149 ⟨Nat.le_of_ble_eq_true rfl, Nat.le_of_ble_eq_true rfl⟩) hw hA (fun p134 H locs hp134 hw => ?_)
            obtain ⟨ma131, ef132, ea133, rfl, e136, e137, e138, e139, e140, e141, e142⟩ := hp134
            replace e136 : (ef117 60).toInt ≤ (ef132 60).toInt := e136
            replace e137 : (ef132 60).toInt ≤ (ef117 60).toInt + w4 := e137
            replace e138 : CdK ea118 ea133 (ef117 60).toInt := e138
            have hcd := hcd.tr e138 (by omega)
            replace e139 : Kc na mb ma131 := e139
            have hkc := e139
            have han := hab.kc hkc
            have hts := htb.kc hkc
            replace e140 : FrL l2 h2 ma_54 ma131 := e140
            have hfl := hfl.tr e140 (by omega) (by omega)
            replace e141 : StQ X9 (ea133 61) (ef117 60).toInt (ef132 60).toInt fi [] (lvq + 1) 4 (ef117 64) (ef132 64) (ef117 65) (ef132 65) := e141
            replace e142 : StX na ma131 z127 (ef117 60).toInt (ef132 60).toInt (ef117 64).toInt (ef132 64).toInt (ef117 65).toInt (ef132 65).toInt := e142
            replace hw : pw D A s.heap H locs [wdP cs h r g tf ta pf na ma131 wa cf ca ef132 ea133 xf xa] := hw
            refine lv_aload_n S.x S.b d_Mpg_makeLoop_152 rfl (lv_at hl 2 rfl) ?_
            refine lv_aload_n S.x S.b d_Mpg_makeLoop_153 rfl (lv_at hl 2 rfl) ?_
            refine px_get S k_Mpg hT hw 0 0 65 (v := .int (ef132 65)) rfl rfl rfl (by decide) m10_65 d_Mpg_makeLoop_154 ?_
            refine lv_aload_n S.x S.b d_Mpg_makeLoop_157 rfl (lv_at hl 2 rfl) ?_
            refine px_get S k_Mpg hT hw 0 0 60 (v := .int (ef132 60)) rfl rfl rfl (by decide) m10_57 d_Mpg_makeLoop_158 ?_
            obtain ⟨l9, hcn9, hls9, hlb9⟩ := lpw_body (hlh.bq (by omega)) e125 e138 e141 (by omega) rfl (by omega) (by omega) (by omega); have hdc9 := hls9.1; have hlo9 : ∀ x ∈ l9, (ef 60).toInt ≤ (x : Int) := fun x hx => (by have := hls9.2 x hx; omega)
            refine px_callv (pr := []) (px_runV (As := [.int (ef132 65), .int (ef132 60)]) (rest := []) S (c_mp_landAll l D cs ((ef132 60).toInt).toNat l9 h r g tf ta pf na ma131 wa cf ca ef132 xf xa ea133 (ef132 65) (ef132 60)  (show ((ef132 60).toInt).toNat ≤ 7000 from by first | with_reducible rfl | with_reducible assumption | omega) (chn_k hcn9 (by omega)) (hdc9.up (by omega)) _) hT (pr := []) (pcs := [wdP cs h r g tf ta pf na ma131 wa cf ca ef132 ea133 xf xa]) hw px_X.tt (px_recv hT hw 0 0 rfl rfl rfl) m13_102 m13_99 m13_101 ms_14_6 m1_21 q_Mpg_landAll ⟨show 0 + 1 ≤ (5 * d + 14) from by first | with_reducible rfl | with_reducible assumption | omega, show 8 + (5 + 11) + 0 ≤ (200 * d + 630) from by first | with_reducible rfl | with_reducible assumption | omega⟩ hl.1 rfl (Nat.le_of_ble_eq_true rfl) d_Mpg_makeLoop_161 ⟨Nat.le_of_ble_eq_true rfl, Nat.le_of_ble_eq_true rfl⟩) hw hA (fun p145 H locs hp145 hw => ?_)
            obtain ⟨ea144, rfl, e147, e148⟩ := hp145
            replace e147 : EaK ea133 ea144 := e147
            skip
            replace e148 : LaA (ea133 61) (ea144 61) l9 (ef132 60) := e148
            have hcd := hcd.tr (EaK.cd e147 e148 hlo9) (Int.le_refl _)
            replace hw : pw D A s.heap H locs [wdP cs h r g tf ta pf na ma131 wa cf ca ef132 ea144 xf xa] := hw
            have hlb := hlb9 _ _ e148 (by omega)
            refine lv_iload S.x S.b d_Mpg_makeLoop_164 (lv_at hl 6 rfl) ?_
            refine lv_bipush (v := 26) S.x S.b d_Mpg_makeLoop_166 (by decide) ?_
            refine lv_icmp_ne (tgt := 190) S.x S.b d_Mpg_makeLoop_168 (by decide) (fun c149 => ?_) (fun c149 => ?_)
            · have nc149 : ¬ x54_4.toInt = (26 : Int) := mt (i_eq (x := x54_4) (y := 26)).mpr c149
              refine lv_iload S.x S.b d_Mpg_makeLoop_190 (lv_at hl 6 rfl) ?_
              refine lv_bipush (v := 27) S.x S.b d_Mpg_makeLoop_192 (by decide) ?_
              refine lv_icmp_ne (tgt := 225) S.x S.b d_Mpg_makeLoop_194 (by decide) (fun c150 => ?_) (fun c150 => ?_)
              · have nc150 : ¬ x54_4.toInt = (27 : Int) := mt (i_eq (x := x54_4) (y := 27)).mpr c150
                refine lv_aload_n S.x S.b d_Mpg_makeLoop_225 rfl (lv_at hl 2 rfl) ?_
                refine lv_bipush (v := 12) S.x S.b d_Mpg_makeLoop_226 (by decide) ?_
                refine lv_iload S.x S.b d_Mpg_makeLoop_228 (lv_at hl 1 rfl) ?_
                refine lv_iconst (v := 0) S.x S.b d_Mpg_makeLoop_230 (by decide) ?_
                refine px_calli (pr := []) (px_runV (As := [.int 12, .int (ef_54 60), .int 0]) (rest := []) S (c_mp_emit l D cs h r g tf ta pf na ma131 wa cf ca xf xa ef132 ea144 12 (ef_54 60) 0  (show 0 ≤ (ef132 60).toInt from by first | exact oz_761957d640 e136 e122 hn60_ef114 e110 e97 k54_5 g6 | omega) (show (ef132 60).toInt < 7000 from by first | with_reducible rfl | with_reducible assumption | omega) _) hT (pr := []) (pcs := [wdP cs h r g tf ta pf na ma131 wa cf ca ef132 ea144 xf xa]) hw px_X.tt (px_recv hT hw 0 0 rfl rfl rfl) m13_86 m13_83 m13_85 ms_14_2 m1_21 q_Mpg_emit ⟨show 0 + 1 ≤ (5 * d + 14) from by first | with_reducible rfl | with_reducible assumption | omega, show 8 + (4 + 11) + 0 ≤ (200 * d + 630) from by first | with_reducible rfl | with_reducible assumption | omega⟩ hl.1 rfl (Nat.le_of_ble_eq_true rfl) d_Mpg_makeLoop_231 ⟨Nat.le_of_ble_eq_true rfl, Nat.le_of_ble_eq_true rfl⟩) hw hA (fun v156 p155 H locs hp155 hw => ?_)
                obtain ⟨ef153, ea154, rfl, e157, e158, e159, e160, e161⟩ := hp155
                replace e157 : v156.toInt = (ef132 60).toInt := e157
                replace e158 : (ef153 60).toInt = (ef132 60).toInt + 1 := e158
                replace e159 : (ef153 64).toInt = (ef132 64).toInt := e159
                replace e160 : (ef153 65).toInt = (ef132 65).toInt := e160
                replace e161 : EmU ea144 ea154 (ef132 60) (12 : Int32) (ef_54 60) (0 : Int32) := e161
                have hcd := hcd.tr e161.cd (by omega)
                have hle := lpw_go hlb CdK.rf (sgq_0 (by omega)) e161 rfl (by omega) rfl (by omega) rfl (by omega)
                replace hw : pw D A s.heap H locs [wdP cs h r g tf ta pf na ma131 wa cf ca ef153 ea154 xf xa] := hw
                have lv156 := Int32.le_toInt v156
                have uv156 := Int32.toInt_lt v156
                refine lv_pop S.x S.b d_Mpg_makeLoop_234 rfl ?_
                refine lv_aload_n S.x S.b d_Mpg_makeLoop_235 rfl (lv_at hl 2 rfl) ?_
                refine lv_aload_n S.x S.b d_Mpg_makeLoop_236 rfl (lv_at hl 2 rfl) ?_
                refine px_get S k_Mpg hT hw 0 0 64 (v := .int (ef153 64)) rfl rfl rfl (by decide) m10_64 d_Mpg_makeLoop_237 ?_
                refine lv_aload_n S.x S.b d_Mpg_makeLoop_240 rfl (lv_at hl 2 rfl) ?_
                refine px_get S k_Mpg hT hw 0 0 60 (v := .int (ef153 60)) rfl rfl rfl (by decide) m10_57 d_Mpg_makeLoop_241 ?_
                obtain ⟨hls0, l9, hcn9, hls9, hst9⟩ := hle; have hdc9 := hls9.1; have hlo9 : ∀ x ∈ l9, (ef 60).toInt ≤ (x : Int) := fun x hx => (by have := hls9.2 x hx; omega)
                refine px_callv (pr := []) (px_runV (As := [.int (ef153 64), .int (ef153 60)]) (rest := []) S (c_mp_landAll l D cs ((ef153 60).toInt).toNat l9 h r g tf ta pf na ma131 wa cf ca ef153 xf xa ea154 (ef153 64) (ef153 60)  (show ((ef153 60).toInt).toNat ≤ 7000 from by first | with_reducible rfl | with_reducible assumption | omega) (chn_k hcn9 (by omega)) (hdc9.up (by omega)) _) hT (pr := []) (pcs := [wdP cs h r g tf ta pf na ma131 wa cf ca ef153 ea154 xf xa]) hw px_X.tt (px_recv hT hw 0 0 rfl rfl rfl) m13_102 m13_99 m13_101 ms_14_6 m1_21 q_Mpg_landAll ⟨show 0 + 1 ≤ (5 * d + 14) from by first | with_reducible rfl | with_reducible assumption | omega, show 8 + (5 + 11) + 0 ≤ (200 * d + 630) from by first | with_reducible rfl | with_reducible assumption | omega⟩ hl.1 rfl (Nat.le_of_ble_eq_true rfl) d_Mpg_makeLoop_244 ⟨Nat.le_of_ble_eq_true rfl, Nat.le_of_ble_eq_true rfl⟩) hw hA (fun p164 H locs hp164 hw => ?_)
                obtain ⟨ea163, rfl, e166, e167⟩ := hp164
                replace e166 : EaK ea154 ea163 := e166
                skip
                replace e167 : LaA (ea154 61) (ea163 61) l9 (ef153 60) := e167
                have hcd := hcd.tr (EaK.cd e166 e167 hlo9) (Int.le_refl _)
                replace hw : pw D A s.heap H locs [wdP cs h r g tf ta pf na ma131 wa cf ca ef153 ea163 xf xa] := hw
                refine lv_aload_n S.x S.b d_Mpg_makeLoop_247 rfl (lv_at hl 2 rfl) ?_
                refine lv_iload_n S.x S.b d_Mpg_makeLoop_248 rfl (lv_at hl 4 rfl) ?_
                refine px_put S k_Mpg hT hw 0 0 64 rfl rfl (by decide) m10_64 rfl rfl rfl (Nat.le_of_ble_eq_true rfl) d_Mpg_makeLoop_249 (w' := wdP cs h r g tf ta pf na ma131 wa cf ca (upd ef153 64 x54_2) ea163 xf xa) (ps' := [wdP cs h r g tf ta pf na ma131 wa cf ca (upd ef153 64 x54_2) ea163 xf xa]) rfl rfl (fun H locs hw => ?_)
                obtain ⟨ef168, hu_ef168⟩ : ∃ y : Nat → Int32, y = upd ef153 64 x54_2 := ⟨_, rfl⟩; have hw : pw D A s.heap _ _ [wdP cs h r g tf ta pf na ma131 wa cf ca ef168 ea163 xf xa] := (by rw [hu_ef168]; exact hw); have hn60_ef168 : (ef168 60).toInt = (ef153 60).toInt := (by rw [hu_ef168, pk_un (by decide)]); have hn64_ef168 : (ef168 64).toInt = x54_2.toInt := (by rw [hu_ef168, pk_us]); have hn65_ef168 : (ef168 65).toInt = (ef153 65).toInt := (by rw [hu_ef168, pk_un (by decide)])
                refine lv_aload_n S.x S.b d_Mpg_makeLoop_252 rfl (lv_at hl 2 rfl) ?_
                refine lv_iload_n S.x S.b d_Mpg_makeLoop_253 rfl (lv_at hl 5 rfl) ?_
                refine px_put S k_Mpg hT hw 0 0 65 rfl rfl (by decide) m10_65 rfl rfl rfl (Nat.le_of_ble_eq_true rfl) d_Mpg_makeLoop_254 (w' := wdP cs h r g tf ta pf na ma131 wa cf ca (upd ef168 65 x54_3) ea163 xf xa) (ps' := [wdP cs h r g tf ta pf na ma131 wa cf ca (upd ef168 65 x54_3) ea163 xf xa]) rfl rfl (fun H locs hw => ?_)
                obtain ⟨ef169, hu_ef169⟩ : ∃ y : Nat → Int32, y = upd ef168 65 x54_3 := ⟨_, rfl⟩; have hw : pw D A s.heap _ _ [wdP cs h r g tf ta pf na ma131 wa cf ca ef169 ea163 xf xa] := (by rw [hu_ef169]; exact hw); have hn60_ef169 : (ef169 60).toInt = (ef168 60).toInt := (by rw [hu_ef169, pk_un (by decide)]); have hn64_ef169 : (ef169 64).toInt = (ef168 64).toInt := (by rw [hu_ef169, pk_un (by decide)]); have hn65_ef169 : (ef169 65).toInt = x54_3.toInt := (by rw [hu_ef169, pk_us])
                exact px_vret S hr hlk hAe hw (Nat.le_of_ble_eq_true rfl) (Nat.le_of_ble_eq_true rfl) (⟨ma131, ef169, ea163, rfl, (show (ef 60).toInt ≤ (ef169 60).toInt from by first | exact oz_cdfc221724 k54_5 hn60_ef169 e97 hn60_ef168 e110 e158 hn60_ef114 e136 e122 | omega), (show (ef169 60).toInt ≤ (ef 60).toInt + wt from by first | with_reducible rfl | with_reducible assumption | omega), (show CdK ea ea163 (ef 60).toInt from hcd), (show Kc na mb ma131 from hkc), (show FrL lo hi ma ma131 from hfl), (show StQ X9 (ea163 61) (ef 60).toInt (ef169 60).toInt fi [] lvq t9 (ef 64) (ef169 64) (ef 65) (ef169 65) from ((hst9 _ _ e167 (by omega) t9 (ef 64) (ef 64) (ef 65) (ef 65) rfl rfl).tq (by omega) (by omega) (by omega) (by omega) (by omega) (by omega)))⟩) d_Mpg_makeLoop_257
              · have nc150 : x54_4.toInt = (27 : Int) := (i_eq (x := x54_4) (y := 27)).mp c150
                exfalso
                omega
            · have nc149 : x54_4.toInt = (26 : Int) := (i_eq (x := x54_4) (y := 26)).mp c149
              exfalso
              omega
          · have nc126 : x54_4.toInt = (27 : Int) := (i_eq (x := x54_4) (y := 27)).mp c126
            exfalso
            omega
    · have nc1 : x54_4.toInt = (27 : Int) := (i_eq (x := x54_4) (y := 27)).mp c1
      refine lv_aload_n S.x S.b d_Mpg_makeLoop_67 rfl (lv_at hl 1 rfl) ?_
      refine px_get S k_Mpg hT hw 0 0 18 (v := .ref (r 18)) rfl rfl rfl (by decide) m10_3 d_Mpg_makeLoop_68 ?_
      refine lv_iload_n S.x S.b d_Mpg_makeLoop_71 rfl (lv_at hl 2 rfl) ?_
      refine px_iald S hT hw 0 14 (n := 2100) (f := (ma_54 18)) rfl gp_18 (x := p0) (vp_in_iff.mpr (by constructor <;> omega)) d_Mpg_makeLoop_72 ?_
      refine lv_topi (fun z170 ez170 => ?_)
      have lz170 := Int32.le_toInt z170
      have uz170 := Int32.toInt_lt z170
      refine lv_goto (tgt := 82) S.x S.b d_Mpg_makeLoop_73 (by decide) ?_
      refine lv_istore (lv' := [(6, .int z170), (5, .int (ef_54 60)), (0, .ref h), (1, .int p0), (2, .int x54_2), (3, .int x54_3), (4, .int x54_4)]) S.x S.b d_Mpg_makeLoop_82 hl (by decide) rfl (fun ls hl => ?_)
      refine lv_iload S.x S.b d_Mpg_makeLoop_84 (lv_at hl 6 rfl) ?_
      refine lv_bipush (v := 26) S.x S.b d_Mpg_makeLoop_86 (by decide) ?_
      refine lv_icmp_eq (tgt := 117) S.x S.b d_Mpg_makeLoop_88 (by decide) (fun c171 => ?_) (fun c171 => ?_)
      · have nc171 : x54_4.toInt = (26 : Int) := (i_eq (x := x54_4) (y := 26)).mp c171
        exfalso
        omega
      · have nc171 : ¬ x54_4.toInt = (26 : Int) := mt (i_eq (x := x54_4) (y := 26)).mpr c171
        refine lv_iload S.x S.b d_Mpg_makeLoop_91 (lv_at hl 0 rfl) ?_
        refine lv_if_lt (tgt := 117) S.x S.b d_Mpg_makeLoop_93 (by decide) (fun c172 => ?_) (fun c172 => ?_)
        · have nc172 : z170.toInt < (0 : Int) := (i_lt (x := z170) (y := 0)).mp c172
          refine lv_aload_n S.x S.b d_Mpg_makeLoop_117 rfl (lv_at hl 2 rfl) ?_
          refine lv_bipush (v := 19) S.x S.b d_Mpg_makeLoop_118 (by decide) ?_
          refine lv_iconst (v := 0) S.x S.b d_Mpg_makeLoop_120 (by decide) ?_
          refine lv_iconst (v := 0) S.x S.b d_Mpg_makeLoop_121 (by decide) ?_
          refine px_calli (pr := []) (px_runV (As := [.int 19, .int 0, .int 0]) (rest := []) S (c_mp_emit l D cs h r g tf ta pf na ma_54 wa cf ca xf xa ef_54 ea_54 19 0 0  (show 0 ≤ (ef_54 60).toInt from by first | exact oz_16d7fa9f32 k54_5 g6 | omega) (show (ef_54 60).toInt < 7000 from by first | with_reducible rfl | with_reducible assumption | omega) _) hT (pr := []) (pcs := [wdP cs h r g tf ta pf na ma_54 wa cf ca ef_54 ea_54 xf xa]) hw px_X.tt (px_recv hT hw 0 0 rfl rfl rfl) m13_86 m13_83 m13_85 ms_14_2 m1_21 q_Mpg_emit ⟨show 0 + 1 ≤ (5 * d + 14) from by first | with_reducible rfl | with_reducible assumption | omega, show 8 + (4 + 11) + 0 ≤ (200 * d + 630) from by first | with_reducible rfl | with_reducible assumption | omega⟩ hl.1 rfl (Nat.le_of_ble_eq_true rfl) d_Mpg_makeLoop_122 ⟨Nat.le_of_ble_eq_true rfl, Nat.le_of_ble_eq_true rfl⟩) hw hA (fun v178 p177 H locs hp177 hw => ?_)
          obtain ⟨ef175, ea176, rfl, e179, e180, e181, e182, e183⟩ := hp177
          replace e179 : v178.toInt = (ef_54 60).toInt := e179
          replace e180 : (ef175 60).toInt = (ef_54 60).toInt + 1 := e180
          replace e181 : (ef175 64).toInt = (ef_54 64).toInt := e181
          replace e182 : (ef175 65).toInt = (ef_54 65).toInt := e182
          replace e183 : EmU ea_54 ea176 (ef_54 60) (19 : Int32) (0 : Int32) (0 : Int32) := e183
          have hcd := hcd.tr e183.cd (by omega)
          replace hw : pw D A s.heap H locs [wdP cs h r g tf ta pf na ma_54 wa cf ca ef175 ea176 xf xa] := hw
          have lv178 := Int32.le_toInt v178
          have uv178 := Int32.toInt_lt v178
          refine lv_pop S.x S.b d_Mpg_makeLoop_125 rfl ?_
          refine lv_aload_n S.x S.b d_Mpg_makeLoop_126 rfl (lv_at hl 2 rfl) ?_
          refine lv_iload S.x S.b d_Mpg_makeLoop_127 (lv_at hl 6 rfl) ?_
          refine lv_bipush (v := 27) S.x S.b d_Mpg_makeLoop_129 (by decide) ?_
          refine lv_icmp_ne (tgt := 143) S.x S.b d_Mpg_makeLoop_131 (by decide) (fun c184 => ?_) (fun c184 => ?_)
          · have nc184 : ¬ x54_4.toInt = (27 : Int) := mt (i_eq (x := x54_4) (y := 27)).mpr c184
            exfalso
            omega
          · have nc184 : x54_4.toInt = (27 : Int) := (i_eq (x := x54_4) (y := 27)).mp c184
            refine lv_aload_n S.x S.b d_Mpg_makeLoop_134 rfl (lv_at hl 2 rfl) ?_
            refine px_get S k_Mpg hT hw 0 0 20 (v := .ref (r 20)) rfl rfl rfl (by decide) m10_6 d_Mpg_makeLoop_135 ?_
            refine lv_iload_n S.x S.b d_Mpg_makeLoop_138 rfl (lv_at hl 3 rfl) ?_
            refine px_iald S hT hw 0 16 (n := 2100) (f := (ma_54 20)) rfl gp_20 (x := p0) (vp_in_iff.mpr (by constructor <;> omega)) d_Mpg_makeLoop_139 ?_
            refine lv_topi (fun z185 ez185 => ?_)
            have lz185 := Int32.le_toInt z185
            have uz185 := Int32.toInt_lt z185
            have hsk_z185 : SkB ta (tf 6).toInt na ma0 mb ca V d (pf 13).toInt l2 h2 w4 bh 4 z185 := (by rw [ez185, hkc.f (k := 20) (x := p0.toNatClampNeg) (by decide)]; exact hb27 (by omega)); have hrs_z185 := hsk_z185.rng; have hk9_z185 := k29_r (na := na) (n := z185)
            refine lv_goto (tgt := 149) S.x S.b d_Mpg_makeLoop_140 (by decide) ?_
            refine px_callv (pr := []) (px_runV (As := [.int z185]) (rest := []) S (hLS ma0 mb ys ns nf l2 h2 w4 V vl vh X9 fi (lvq + 1) bh 4 h r g tf ta pf na wa cf ca xf xa ma_54 ef175 ea176 z185 (show 0 ≤ (tf 5).toInt from by first | exact g0 | omega) (show (tf 5).toInt ≤ 2048 from by first | exact g1 | omega) (show (pf 13).toInt ≤ 2100 from by first | exact g2 | omega) (show (tf 6).toInt ≤ 2049 from by first | exact g3 | omega) (show (cf 38).toInt = nf from by first | exact g4 | omega) (show 0 ≤ nf from by first | exact g5 | omega) (show 0 ≤ (ef175 60).toInt from by first | exact oz_2188d1bf01 e180 k54_5 g6 | omega) (show 0 ≤ fi from by first | exact g7 | omega) (show 1 ≤ X9.tall fi from by first | exact g8 | omega) (show bh ≤ X9.tall fi from by first | exact g9 | omega) (show (ef175 60).toInt + w4 ≤ 7000 + k29 na z185 from by first | with_reducible rfl | with_reducible assumption | omega) htk (FnT.eq hft (by omega)) hfp hab hkc htb hcx hsk_z185 _) hT (pr := []) (pcs := [wdP cs h r g tf ta pf na ma_54 wa cf ca ef175 ea176 xf xa]) hw (oX_call (P := (fun A U H => (oP A g U H))) (pr := []) oG_P hw hA hP) (px_recv hT hw 0 0 rfl rfl rfl) m13_126 m13_123 m13_125 ms_14_12 m1_21 q_Mpg_makeStatement ⟨show (5 * d + 12) + 1 ≤ (5 * d + 14) from by first | with_reducible rfl | with_reducible assumption | omega, show 8 + (4 + 11) + (200 * d + 500) ≤ (200 * d + 630) from by first | with_reducible rfl | with_reducible assumption | omega⟩ hl.1 rfl (Nat.le_of_ble_eq_true rfl) d_Mpg_makeLoop_149 ⟨Nat.le_of_ble_eq_true rfl, Nat.le_of_ble_eq_true rfl⟩) hw hA (fun p192 H locs hp192 hw => ?_)
            obtain ⟨ma189, ef190, ea191, rfl, e194, e195, e196, e197, e198, e199, e200⟩ := hp192
            replace e194 : (ef175 60).toInt ≤ (ef190 60).toInt := e194
            replace e195 : (ef190 60).toInt ≤ (ef175 60).toInt + w4 := e195
            replace e196 : CdK ea176 ea191 (ef175 60).toInt := e196
            have hcd := hcd.tr e196 (by omega)
            replace e197 : Kc na mb ma189 := e197
            have hkc := e197
            have han := hab.kc hkc
            have hts := htb.kc hkc
            replace e198 : FrL l2 h2 ma_54 ma189 := e198
            have hfl := hfl.tr e198 (by omega) (by omega)
            replace e199 : StQ X9 (ea191 61) (ef175 60).toInt (ef190 60).toInt fi [] (lvq + 1) 4 (ef175 64) (ef190 64) (ef175 65) (ef190 65) := e199
            replace e200 : StX na ma189 z185 (ef175 60).toInt (ef190 60).toInt (ef175 64).toInt (ef190 64).toInt (ef175 65).toInt (ef190 65).toInt := e200
            replace hw : pw D A s.heap H locs [wdP cs h r g tf ta pf na ma189 wa cf ca ef190 ea191 xf xa] := hw
            refine lv_aload_n S.x S.b d_Mpg_makeLoop_152 rfl (lv_at hl 2 rfl) ?_
            refine lv_aload_n S.x S.b d_Mpg_makeLoop_153 rfl (lv_at hl 2 rfl) ?_
            refine px_get S k_Mpg hT hw 0 0 65 (v := .int (ef190 65)) rfl rfl rfl (by decide) m10_65 d_Mpg_makeLoop_154 ?_
            refine lv_aload_n S.x S.b d_Mpg_makeLoop_157 rfl (lv_at hl 2 rfl) ?_
            refine px_get S k_Mpg hT hw 0 0 60 (v := .int (ef190 60)) rfl rfl rfl (by decide) m10_57 d_Mpg_makeLoop_158 ?_
            obtain ⟨l9, hcn9, hls9, hlb9⟩ := lpw_body (hlh.bq (by omega)) e183 e196 e199 (by omega) rfl (by omega) (by omega) (by omega); have hdc9 := hls9.1; have hlo9 : ∀ x ∈ l9, (ef 60).toInt ≤ (x : Int) := fun x hx => (by have := hls9.2 x hx; omega)
            refine px_callv (pr := []) (px_runV (As := [.int (ef190 65), .int (ef190 60)]) (rest := []) S (c_mp_landAll l D cs ((ef190 60).toInt).toNat l9 h r g tf ta pf na ma189 wa cf ca ef190 xf xa ea191 (ef190 65) (ef190 60)  (show ((ef190 60).toInt).toNat ≤ 7000 from by first | with_reducible rfl | with_reducible assumption | omega) (chn_k hcn9 (by omega)) (hdc9.up (by omega)) _) hT (pr := []) (pcs := [wdP cs h r g tf ta pf na ma189 wa cf ca ef190 ea191 xf xa]) hw px_X.tt (px_recv hT hw 0 0 rfl rfl rfl) m13_102 m13_99 m13_101 ms_14_6 m1_21 q_Mpg_landAll ⟨show 0 + 1 ≤ (5 * d + 14) from by first | with_reducible rfl | with_reducible assumption | omega, show 8 + (5 + 11) + 0 ≤ (200 * d + 630) from by first | with_reducible rfl | with_reducible assumption | omega⟩ hl.1 rfl (Nat.le_of_ble_eq_true rfl) d_Mpg_makeLoop_161 ⟨Nat.le_of_ble_eq_true rfl, Nat.le_of_ble_eq_true rfl⟩) hw hA (fun p203 H locs hp203 hw => ?_)
            obtain ⟨ea202, rfl, e205, e206⟩ := hp203
            replace e205 : EaK ea191 ea202 := e205
            skip
            replace e206 : LaA (ea191 61) (ea202 61) l9 (ef190 60) := e206
            have hcd := hcd.tr (EaK.cd e205 e206 hlo9) (Int.le_refl _)
            replace hw : pw D A s.heap H locs [wdP cs h r g tf ta pf na ma189 wa cf ca ef190 ea202 xf xa] := hw
            have hlb := hlb9 _ _ e206 (by omega)
            refine lv_iload S.x S.b d_Mpg_makeLoop_164 (lv_at hl 6 rfl) ?_
            refine lv_bipush (v := 26) S.x S.b d_Mpg_makeLoop_166 (by decide) ?_
            refine lv_icmp_ne (tgt := 190) S.x S.b d_Mpg_makeLoop_168 (by decide) (fun c207 => ?_) (fun c207 => ?_)
            · have nc207 : ¬ x54_4.toInt = (26 : Int) := mt (i_eq (x := x54_4) (y := 26)).mpr c207
              refine lv_iload S.x S.b d_Mpg_makeLoop_190 (lv_at hl 6 rfl) ?_
              refine lv_bipush (v := 27) S.x S.b d_Mpg_makeLoop_192 (by decide) ?_
              refine lv_icmp_ne (tgt := 225) S.x S.b d_Mpg_makeLoop_194 (by decide) (fun c208 => ?_) (fun c208 => ?_)
              · have nc208 : ¬ x54_4.toInt = (27 : Int) := mt (i_eq (x := x54_4) (y := 27)).mpr c208
                exfalso
                omega
              · have nc208 : x54_4.toInt = (27 : Int) := (i_eq (x := x54_4) (y := 27)).mp c208
                refine lv_aload_n S.x S.b d_Mpg_makeLoop_197 rfl (lv_at hl 2 rfl) ?_
                refine px_get S k_Mpg hT hw 0 0 19 (v := .ref (r 19)) rfl rfl rfl (by decide) m10_5 d_Mpg_makeLoop_198 ?_
                refine lv_iload_n S.x S.b d_Mpg_makeLoop_201 rfl (lv_at hl 3 rfl) ?_
                refine px_iald S hT hw 0 15 (n := 2100) (f := (ma189 19)) rfl gp_19 (x := p0) (vp_in_iff.mpr (by constructor <;> omega)) d_Mpg_makeLoop_202 ?_
                refine lv_topi (fun z209 ez209 => ?_)
                have lz209 := Int32.le_toInt z209
                have uz209 := Int32.toInt_lt z209
                refine lv_if_lt (tgt := 225) S.x S.b d_Mpg_makeLoop_203 (by decide) (fun c210 => ?_) (fun c210 => ?_)
                · have nc210 : z209.toInt < (0 : Int) := (i_lt (x := z209) (y := 0)).mp c210
                  refine lv_aload_n S.x S.b d_Mpg_makeLoop_225 rfl (lv_at hl 2 rfl) ?_
                  refine lv_bipush (v := 12) S.x S.b d_Mpg_makeLoop_226 (by decide) ?_
                  refine lv_iload S.x S.b d_Mpg_makeLoop_228 (lv_at hl 1 rfl) ?_
                  refine lv_iconst (v := 0) S.x S.b d_Mpg_makeLoop_230 (by decide) ?_
                  refine px_calli (pr := []) (px_runV (As := [.int 12, .int (ef_54 60), .int 0]) (rest := []) S (c_mp_emit l D cs h r g tf ta pf na ma189 wa cf ca xf xa ef190 ea202 12 (ef_54 60) 0  (show 0 ≤ (ef190 60).toInt from by first | exact oz_6501cbe7e5 e194 e180 k54_5 g6 | omega) (show (ef190 60).toInt < 7000 from by first | with_reducible rfl | with_reducible assumption | omega) _) hT (pr := []) (pcs := [wdP cs h r g tf ta pf na ma189 wa cf ca ef190 ea202 xf xa]) hw px_X.tt (px_recv hT hw 0 0 rfl rfl rfl) m13_86 m13_83 m13_85 ms_14_2 m1_21 q_Mpg_emit ⟨show 0 + 1 ≤ (5 * d + 14) from by first | with_reducible rfl | with_reducible assumption | omega, show 8 + (4 + 11) + 0 ≤ (200 * d + 630) from by first | with_reducible rfl | with_reducible assumption | omega⟩ hl.1 rfl (Nat.le_of_ble_eq_true rfl) d_Mpg_makeLoop_231 ⟨Nat.le_of_ble_eq_true rfl, Nat.le_of_ble_eq_true rfl⟩) hw hA (fun v216 p215 H locs hp215 hw => ?_)
                  obtain ⟨ef213, ea214, rfl, e217, e218, e219, e220, e221⟩ := hp215
                  replace e217 : v216.toInt = (ef190 60).toInt := e217
                  replace e218 : (ef213 60).toInt = (ef190 60).toInt + 1 := e218
                  replace e219 : (ef213 64).toInt = (ef190 64).toInt := e219
                  replace e220 : (ef213 65).toInt = (ef190 65).toInt := e220
                  replace e221 : EmU ea202 ea214 (ef190 60) (12 : Int32) (ef_54 60) (0 : Int32) := e221
                  have hcd := hcd.tr e221.cd (by omega)
                  have hle := lpw_go hlb CdK.rf (sgq_0 (by omega)) e221 rfl (by omega) rfl (by omega) rfl (by omega)
                  replace hw : pw D A s.heap H locs [wdP cs h r g tf ta pf na ma189 wa cf ca ef213 ea214 xf xa] := hw
                  have lv216 := Int32.le_toInt v216
                  have uv216 := Int32.toInt_lt v216
                  refine lv_pop S.x S.b d_Mpg_makeLoop_234 rfl ?_
                  refine lv_aload_n S.x S.b d_Mpg_makeLoop_235 rfl (lv_at hl 2 rfl) ?_
                  refine lv_aload_n S.x S.b d_Mpg_makeLoop_236 rfl (lv_at hl 2 rfl) ?_
                  refine px_get S k_Mpg hT hw 0 0 64 (v := .int (ef213 64)) rfl rfl rfl (by decide) m10_64 d_Mpg_makeLoop_237 ?_
                  refine lv_aload_n S.x S.b d_Mpg_makeLoop_240 rfl (lv_at hl 2 rfl) ?_
                  refine px_get S k_Mpg hT hw 0 0 60 (v := .int (ef213 60)) rfl rfl rfl (by decide) m10_57 d_Mpg_makeLoop_241 ?_
                  obtain ⟨hls0, l9, hcn9, hls9, hst9⟩ := hle; have hdc9 := hls9.1; have hlo9 : ∀ x ∈ l9, (ef 60).toInt ≤ (x : Int) := fun x hx => (by have := hls9.2 x hx; omega)
                  refine px_callv (pr := []) (px_runV (As := [.int (ef213 64), .int (ef213 60)]) (rest := []) S (c_mp_landAll l D cs ((ef213 60).toInt).toNat l9 h r g tf ta pf na ma189 wa cf ca ef213 xf xa ea214 (ef213 64) (ef213 60)  (show ((ef213 60).toInt).toNat ≤ 7000 from by first | with_reducible rfl | with_reducible assumption | omega) (chn_k hcn9 (by omega)) (hdc9.up (by omega)) _) hT (pr := []) (pcs := [wdP cs h r g tf ta pf na ma189 wa cf ca ef213 ea214 xf xa]) hw px_X.tt (px_recv hT hw 0 0 rfl rfl rfl) m13_102 m13_99 m13_101 ms_14_6 m1_21 q_Mpg_landAll ⟨show 0 + 1 ≤ (5 * d + 14) from by first | with_reducible rfl | with_reducible assumption | omega, show 8 + (5 + 11) + 0 ≤ (200 * d + 630) from by first | with_reducible rfl | with_reducible assumption | omega⟩ hl.1 rfl (Nat.le_of_ble_eq_true rfl) d_Mpg_makeLoop_244 ⟨Nat.le_of_ble_eq_true rfl, Nat.le_of_ble_eq_true rfl⟩) hw hA (fun p224 H locs hp224 hw => ?_)
                  obtain ⟨ea223, rfl, e226, e227⟩ := hp224
                  replace e226 : EaK ea214 ea223 := e226
                  skip
                  replace e227 : LaA (ea214 61) (ea223 61) l9 (ef213 60) := e227
                  have hcd := hcd.tr (EaK.cd e226 e227 hlo9) (Int.le_refl _)
                  replace hw : pw D A s.heap H locs [wdP cs h r g tf ta pf na ma189 wa cf ca ef213 ea223 xf xa] := hw
                  refine lv_aload_n S.x S.b d_Mpg_makeLoop_247 rfl (lv_at hl 2 rfl) ?_
                  refine lv_iload_n S.x S.b d_Mpg_makeLoop_248 rfl (lv_at hl 4 rfl) ?_
                  refine px_put S k_Mpg hT hw 0 0 64 rfl rfl (by decide) m10_64 rfl rfl rfl (Nat.le_of_ble_eq_true rfl) d_Mpg_makeLoop_249 (w' := wdP cs h r g tf ta pf na ma189 wa cf ca (upd ef213 64 x54_2) ea223 xf xa) (ps' := [wdP cs h r g tf ta pf na ma189 wa cf ca (upd ef213 64 x54_2) ea223 xf xa]) rfl rfl (fun H locs hw => ?_)
                  obtain ⟨ef228, hu_ef228⟩ : ∃ y : Nat → Int32, y = upd ef213 64 x54_2 := ⟨_, rfl⟩; have hw : pw D A s.heap _ _ [wdP cs h r g tf ta pf na ma189 wa cf ca ef228 ea223 xf xa] := (by rw [hu_ef228]; exact hw); have hn60_ef228 : (ef228 60).toInt = (ef213 60).toInt := (by rw [hu_ef228, pk_un (by decide)]); have hn64_ef228 : (ef228 64).toInt = x54_2.toInt := (by rw [hu_ef228, pk_us]); have hn65_ef228 : (ef228 65).toInt = (ef213 65).toInt := (by rw [hu_ef228, pk_un (by decide)])
                  refine lv_aload_n S.x S.b d_Mpg_makeLoop_252 rfl (lv_at hl 2 rfl) ?_
                  refine lv_iload_n S.x S.b d_Mpg_makeLoop_253 rfl (lv_at hl 5 rfl) ?_
                  refine px_put S k_Mpg hT hw 0 0 65 rfl rfl (by decide) m10_65 rfl rfl rfl (Nat.le_of_ble_eq_true rfl) d_Mpg_makeLoop_254 (w' := wdP cs h r g tf ta pf na ma189 wa cf ca (upd ef228 65 x54_3) ea223 xf xa) (ps' := [wdP cs h r g tf ta pf na ma189 wa cf ca (upd ef228 65 x54_3) ea223 xf xa]) rfl rfl (fun H locs hw => ?_)
                  obtain ⟨ef229, hu_ef229⟩ : ∃ y : Nat → Int32, y = upd ef228 65 x54_3 := ⟨_, rfl⟩; have hw : pw D A s.heap _ _ [wdP cs h r g tf ta pf na ma189 wa cf ca ef229 ea223 xf xa] := (by rw [hu_ef229]; exact hw); have hn60_ef229 : (ef229 60).toInt = (ef228 60).toInt := (by rw [hu_ef229, pk_un (by decide)]); have hn64_ef229 : (ef229 64).toInt = (ef228 64).toInt := (by rw [hu_ef229, pk_un (by decide)]); have hn65_ef229 : (ef229 65).toInt = x54_3.toInt := (by rw [hu_ef229, pk_us])
                  exact px_vret S hr hlk hAe hw (Nat.le_of_ble_eq_true rfl) (Nat.le_of_ble_eq_true rfl) (⟨ma189, ef229, ea223, rfl, (show (ef 60).toInt ≤ (ef229 60).toInt from by first | exact oz_99977282f0 k54_5 hn60_ef229 e180 hn60_ef228 e194 e218 | omega), (show (ef229 60).toInt ≤ (ef 60).toInt + wt from by first | with_reducible rfl | with_reducible assumption | omega), (show CdK ea ea223 (ef 60).toInt from hcd), (show Kc na mb ma189 from hkc), (show FrL lo hi ma ma189 from hfl), (show StQ X9 (ea223 61) (ef 60).toInt (ef229 60).toInt fi [] lvq t9 (ef 64) (ef229 64) (ef 65) (ef229 65) from ((hst9 _ _ e227 (by omega) t9 (ef 64) (ef 64) (ef 65) (ef 65) rfl rfl).tq (by omega) (by omega) (by omega) (by omega) (by omega) (by omega)))⟩) d_Mpg_makeLoop_257
                · have nc210 : ¬ z209.toInt < (0 : Int) := mt (i_lt (x := z209) (y := 0)).mpr c210
                  refine lv_aload_n S.x S.b d_Mpg_makeLoop_206 rfl (lv_at hl 2 rfl) ?_
                  refine lv_aload_n S.x S.b d_Mpg_makeLoop_207 rfl (lv_at hl 2 rfl) ?_
                  refine px_get S k_Mpg hT hw 0 0 19 (v := .ref (r 19)) rfl rfl rfl (by decide) m10_5 d_Mpg_makeLoop_208 ?_
                  refine lv_iload_n S.x S.b d_Mpg_makeLoop_211 rfl (lv_at hl 3 rfl) ?_
                  refine px_iald S hT hw 0 15 (n := 2100) (f := (ma189 19)) rfl gp_19 (x := p0) (vp_in_iff.mpr (by constructor <;> omega)) d_Mpg_makeLoop_212 ?_
                  refine lv_topi (fun z230 ez230 => ?_)
                  have lz230 := Int32.le_toInt z230
                  have uz230 := Int32.toInt_lt z230
                  have hmk_z230 : MkB ta (tf 6).toInt na ma0 ma189 ca (V1 V) d (pf 13).toInt w3 bh z230 := (by rw [ez230, hkc.g (x := p0.toNatClampNeg) (by omega)]; exact (hd27 (by omega) (by rw [← hkc.g (x := p0.toNatClampNeg) (by omega), ← ez209]; omega)).kc hkc); have hec_z230 := hmk_z230.ec; have hrg_z230 := EcV.rng hec_z230; have hnn_z230 := hmk_z230.nn
                  refine px_callv (pr := []) (px_runV (As := [.int z230]) (rest := []) S (c_S_make l D cs ma0 ys ns nf d w3 (V1 V) vl vh X9 fi [] (lvq + 1) bh h r g tf ta pf na ma189 wa cf ca xf xa ef190 ea202 z230  (show (pf 13).toInt ≤ 2100 from by first | exact g2 | omega) (show (tf 6).toInt ≤ 2049 from by first | exact g3 | omega) (show (cf 38).toInt = nf from by first | exact g4 | omega) (show 0 ≤ nf from by first | exact g5 | omega) (show 0 ≤ (ef190 60).toInt from by first | exact oz_6501cbe7e5 e194 e180 k54_5 g6 | omega) (show (ef190 60).toInt + w3 ≤ 7000 from by first | with_reducible rfl | with_reducible assumption | omega) (show ([].length : Int) + bh ≤ X9.tall fi from by first | with_reducible rfl | with_reducible assumption | omega) htk (FnT.eq hft (by omega)) hfp han hts hcx hmk_z230 _) hT (pr := []) (pcs := [wdP cs h r g tf ta pf na ma189 wa cf ca ef190 ea202 xf xa]) hw (oX_call (P := (fun A U H => (oP A g U H))) (pr := []) oG_P hw hA hP) (px_recv hT hw 0 0 rfl rfl rfl) m13_90 m13_87 m13_89 ms_14_3 m1_21 q_Mpg_make2 ⟨show (2 * d + 10) + 1 ≤ (5 * d + 14) from by first | with_reducible rfl | with_reducible assumption | omega, show 8 + (8 + 11) + (120 * d + 320) ≤ (200 * d + 630) from by first | with_reducible rfl | with_reducible assumption | omega⟩ hl.1 rfl (Nat.le_of_ble_eq_true rfl) d_Mpg_makeLoop_213 ⟨Nat.le_of_ble_eq_true rfl, Nat.le_of_ble_eq_true rfl⟩) hw hA (fun p235 H locs hp235 hw => ?_)
                  obtain ⟨ef233, ea234, rfl, e237, e238, e239, e240, e241, e242⟩ := hp235
                  replace e237 : (ef190 60).toInt ≤ (ef233 60).toInt := e237
                  replace e238 : (ef233 60).toInt ≤ (ef190 60).toInt + w3 := e238
                  replace e239 : (ef233 64).toInt = (ef190 64).toInt := e239
                  replace e240 : (ef233 65).toInt = (ef190 65).toInt := e240
                  replace e241 : CdK ea202 ea234 (ef190 60).toInt := e241
                  have hcd := hcd.tr e241 (by omega)
                  replace e242 : SgQ X9 (ea234 61) (ef190 60).toInt (ef233 60).toInt fi [] (0 :: []) (lvq + 1) := e242
                  replace hw : pw D A s.heap H locs [wdP cs h r g tf ta pf na ma189 wa cf ca ef233 ea234 xf xa] := hw
                  refine lv_aload_n S.x S.b d_Mpg_makeLoop_216 rfl (lv_at hl 2 rfl) ?_
                  refine lv_bipush (v := 17) S.x S.b d_Mpg_makeLoop_217 (by decide) ?_
                  refine lv_iconst (v := 0) S.x S.b d_Mpg_makeLoop_219 (by decide) ?_
                  refine lv_iconst (v := 0) S.x S.b d_Mpg_makeLoop_220 (by decide) ?_
                  refine px_calli (pr := []) (px_runV (As := [.int 17, .int 0, .int 0]) (rest := []) S (c_mp_emit l D cs h r g tf ta pf na ma189 wa cf ca xf xa ef233 ea234 17 0 0  (show 0 ≤ (ef233 60).toInt from by first | exact oz_b36c82e845 e237 e194 e180 k54_5 g6 | omega) (show (ef233 60).toInt < 7000 from by first | with_reducible rfl | with_reducible assumption | omega) _) hT (pr := []) (pcs := [wdP cs h r g tf ta pf na ma189 wa cf ca ef233 ea234 xf xa]) hw px_X.tt (px_recv hT hw 0 0 rfl rfl rfl) m13_86 m13_83 m13_85 ms_14_2 m1_21 q_Mpg_emit ⟨show 0 + 1 ≤ (5 * d + 14) from by first | with_reducible rfl | with_reducible assumption | omega, show 8 + (4 + 11) + 0 ≤ (200 * d + 630) from by first | with_reducible rfl | with_reducible assumption | omega⟩ hl.1 rfl (Nat.le_of_ble_eq_true rfl) d_Mpg_makeLoop_221 ⟨Nat.le_of_ble_eq_true rfl, Nat.le_of_ble_eq_true rfl⟩) hw hA (fun v248 p247 H locs hp247 hw => ?_)
                  obtain ⟨ef245, ea246, rfl, e249, e250, e251, e252, e253⟩ := hp247
                  replace e249 : v248.toInt = (ef233 60).toInt := e249
                  replace e250 : (ef245 60).toInt = (ef233 60).toInt + 1 := e250
                  replace e251 : (ef245 64).toInt = (ef233 64).toInt := e251
                  replace e252 : (ef245 65).toInt = (ef233 65).toInt := e252
                  replace e253 : EmU ea234 ea246 (ef233 60) (17 : Int32) (0 : Int32) (0 : Int32) := e253
                  have hcd := hcd.tr e253.cd (by omega)
                  replace hw : pw D A s.heap H locs [wdP cs h r g tf ta pf na ma189 wa cf ca ef245 ea246 xf xa] := hw
                  have lv248 := Int32.le_toInt v248
                  have uv248 := Int32.toInt_lt v248
                  refine lv_pop S.x S.b d_Mpg_makeLoop_224 rfl ?_
                  refine lv_aload_n S.x S.b d_Mpg_makeLoop_225 rfl (lv_at hl 2 rfl) ?_
                  refine lv_bipush (v := 12) S.x S.b d_Mpg_makeLoop_226 (by decide) ?_
                  refine lv_iload S.x S.b d_Mpg_makeLoop_228 (lv_at hl 1 rfl) ?_
                  refine lv_iconst (v := 0) S.x S.b d_Mpg_makeLoop_230 (by decide) ?_
                  refine px_calli (pr := []) (px_runV (As := [.int 12, .int (ef_54 60), .int 0]) (rest := []) S (c_mp_emit l D cs h r g tf ta pf na ma189 wa cf ca xf xa ef245 ea246 12 (ef_54 60) 0  (show 0 ≤ (ef245 60).toInt from by first | exact oz_dd426ea271 e250 e237 e194 e180 k54_5 g6 | omega) (show (ef245 60).toInt < 7000 from by first | with_reducible rfl | with_reducible assumption | omega) _) hT (pr := []) (pcs := [wdP cs h r g tf ta pf na ma189 wa cf ca ef245 ea246 xf xa]) hw px_X.tt (px_recv hT hw 0 0 rfl rfl rfl) m13_86 m13_83 m13_85 ms_14_2 m1_21 q_Mpg_emit ⟨show 0 + 1 ≤ (5 * d + 14) from by first | with_reducible rfl | with_reducible assumption | omega, show 8 + (4 + 11) + 0 ≤ (200 * d + 630) from by first | with_reducible rfl | with_reducible assumption | omega⟩ hl.1 rfl (Nat.le_of_ble_eq_true rfl) d_Mpg_makeLoop_231 ⟨Nat.le_of_ble_eq_true rfl, Nat.le_of_ble_eq_true rfl⟩) hw hA (fun v259 p258 H locs hp258 hw => ?_)
                  obtain ⟨ef256, ea257, rfl, e260, e261, e262, e263, e264⟩ := hp258
                  replace e260 : v259.toInt = (ef245 60).toInt := e260
                  replace e261 : (ef256 60).toInt = (ef245 60).toInt + 1 := e261
                  replace e262 : (ef256 64).toInt = (ef245 64).toInt := e262
                  replace e263 : (ef256 65).toInt = (ef245 65).toInt := e263
                  replace e264 : EmU ea246 ea257 (ef245 60) (12 : Int32) (ef_54 60) (0 : Int32) := e264
                  have hcd := hcd.tr e264.cd (by omega)
                  have hle := lpw_go hlb (e241.tr e253.cd (by omega)) (e242.em e253 (by omega) rfl (by omega) (.pop [] rfl)) e264 (by omega) (by omega) rfl (by omega) rfl (by omega)
                  replace hw : pw D A s.heap H locs [wdP cs h r g tf ta pf na ma189 wa cf ca ef256 ea257 xf xa] := hw
                  have lv259 := Int32.le_toInt v259
                  have uv259 := Int32.toInt_lt v259
                  refine lv_pop S.x S.b d_Mpg_makeLoop_234 rfl ?_
                  refine lv_aload_n S.x S.b d_Mpg_makeLoop_235 rfl (lv_at hl 2 rfl) ?_
                  refine lv_aload_n S.x S.b d_Mpg_makeLoop_236 rfl (lv_at hl 2 rfl) ?_
                  refine px_get S k_Mpg hT hw 0 0 64 (v := .int (ef256 64)) rfl rfl rfl (by decide) m10_64 d_Mpg_makeLoop_237 ?_
                  refine lv_aload_n S.x S.b d_Mpg_makeLoop_240 rfl (lv_at hl 2 rfl) ?_
                  refine px_get S k_Mpg hT hw 0 0 60 (v := .int (ef256 60)) rfl rfl rfl (by decide) m10_57 d_Mpg_makeLoop_241 ?_
                  obtain ⟨hls0, l9, hcn9, hls9, hst9⟩ := hle; have hdc9 := hls9.1; have hlo9 : ∀ x ∈ l9, (ef 60).toInt ≤ (x : Int) := fun x hx => (by have := hls9.2 x hx; omega)
                  refine px_callv (pr := []) (px_runV (As := [.int (ef256 64), .int (ef256 60)]) (rest := []) S (c_mp_landAll l D cs ((ef256 60).toInt).toNat l9 h r g tf ta pf na ma189 wa cf ca ef256 xf xa ea257 (ef256 64) (ef256 60)  (show ((ef256 60).toInt).toNat ≤ 7000 from by first | with_reducible rfl | with_reducible assumption | omega) (chn_k hcn9 (by omega)) (hdc9.up (by omega)) _) hT (pr := []) (pcs := [wdP cs h r g tf ta pf na ma189 wa cf ca ef256 ea257 xf xa]) hw px_X.tt (px_recv hT hw 0 0 rfl rfl rfl) m13_102 m13_99 m13_101 ms_14_6 m1_21 q_Mpg_landAll ⟨show 0 + 1 ≤ (5 * d + 14) from by first | with_reducible rfl | with_reducible assumption | omega, show 8 + (5 + 11) + 0 ≤ (200 * d + 630) from by first | with_reducible rfl | with_reducible assumption | omega⟩ hl.1 rfl (Nat.le_of_ble_eq_true rfl) d_Mpg_makeLoop_244 ⟨Nat.le_of_ble_eq_true rfl, Nat.le_of_ble_eq_true rfl⟩) hw hA (fun p267 H locs hp267 hw => ?_)
                  obtain ⟨ea266, rfl, e269, e270⟩ := hp267
                  replace e269 : EaK ea257 ea266 := e269
                  skip
                  replace e270 : LaA (ea257 61) (ea266 61) l9 (ef256 60) := e270
                  have hcd := hcd.tr (EaK.cd e269 e270 hlo9) (Int.le_refl _)
                  replace hw : pw D A s.heap H locs [wdP cs h r g tf ta pf na ma189 wa cf ca ef256 ea266 xf xa] := hw
                  refine lv_aload_n S.x S.b d_Mpg_makeLoop_247 rfl (lv_at hl 2 rfl) ?_
                  refine lv_iload_n S.x S.b d_Mpg_makeLoop_248 rfl (lv_at hl 4 rfl) ?_
                  refine px_put S k_Mpg hT hw 0 0 64 rfl rfl (by decide) m10_64 rfl rfl rfl (Nat.le_of_ble_eq_true rfl) d_Mpg_makeLoop_249 (w' := wdP cs h r g tf ta pf na ma189 wa cf ca (upd ef256 64 x54_2) ea266 xf xa) (ps' := [wdP cs h r g tf ta pf na ma189 wa cf ca (upd ef256 64 x54_2) ea266 xf xa]) rfl rfl (fun H locs hw => ?_)
                  obtain ⟨ef271, hu_ef271⟩ : ∃ y : Nat → Int32, y = upd ef256 64 x54_2 := ⟨_, rfl⟩; have hw : pw D A s.heap _ _ [wdP cs h r g tf ta pf na ma189 wa cf ca ef271 ea266 xf xa] := (by rw [hu_ef271]; exact hw); have hn60_ef271 : (ef271 60).toInt = (ef256 60).toInt := (by rw [hu_ef271, pk_un (by decide)]); have hn64_ef271 : (ef271 64).toInt = x54_2.toInt := (by rw [hu_ef271, pk_us]); have hn65_ef271 : (ef271 65).toInt = (ef256 65).toInt := (by rw [hu_ef271, pk_un (by decide)])
                  refine lv_aload_n S.x S.b d_Mpg_makeLoop_252 rfl (lv_at hl 2 rfl) ?_
                  refine lv_iload_n S.x S.b d_Mpg_makeLoop_253 rfl (lv_at hl 5 rfl) ?_
                  refine px_put S k_Mpg hT hw 0 0 65 rfl rfl (by decide) m10_65 rfl rfl rfl (Nat.le_of_ble_eq_true rfl) d_Mpg_makeLoop_254 (w' := wdP cs h r g tf ta pf na ma189 wa cf ca (upd ef271 65 x54_3) ea266 xf xa) (ps' := [wdP cs h r g tf ta pf na ma189 wa cf ca (upd ef271 65 x54_3) ea266 xf xa]) rfl rfl (fun H locs hw => ?_)
                  obtain ⟨ef272, hu_ef272⟩ : ∃ y : Nat → Int32, y = upd ef271 65 x54_3 := ⟨_, rfl⟩; have hw : pw D A s.heap _ _ [wdP cs h r g tf ta pf na ma189 wa cf ca ef272 ea266 xf xa] := (by rw [hu_ef272]; exact hw); have hn60_ef272 : (ef272 60).toInt = (ef271 60).toInt := (by rw [hu_ef272, pk_un (by decide)]); have hn64_ef272 : (ef272 64).toInt = (ef271 64).toInt := (by rw [hu_ef272, pk_un (by decide)]); have hn65_ef272 : (ef272 65).toInt = x54_3.toInt := (by rw [hu_ef272, pk_us])
                  exact px_vret S hr hlk hAe hw (Nat.le_of_ble_eq_true rfl) (Nat.le_of_ble_eq_true rfl) (⟨ma189, ef272, ea266, rfl, (show (ef 60).toInt ≤ (ef272 60).toInt from by first | exact oz_3e83355635 k54_5 hn60_ef272 e180 hn60_ef271 e194 e261 e237 e250 | omega), (show (ef272 60).toInt ≤ (ef 60).toInt + wt from by first | with_reducible rfl | with_reducible assumption | omega), (show CdK ea ea266 (ef 60).toInt from hcd), (show Kc na mb ma189 from hkc), (show FrL lo hi ma ma189 from hfl), (show StQ X9 (ea266 61) (ef 60).toInt (ef272 60).toInt fi [] lvq t9 (ef 64) (ef272 64) (ef 65) (ef272 65) from ((hst9 _ _ e270 (by omega) t9 (ef 64) (ef 64) (ef 65) (ef 65) rfl rfl).tq (by omega) (by omega) (by omega) (by omega) (by omega) (by omega)))⟩) d_Mpg_makeLoop_257
            · have nc207 : x54_4.toInt = (26 : Int) := (i_eq (x := x54_4) (y := 26)).mp c207
              exfalso
              omega
        · have nc172 : ¬ z170.toInt < (0 : Int) := mt (i_lt (x := z170) (y := 0)).mpr c172
          refine lv_aload_n S.x S.b d_Mpg_makeLoop_96 rfl (lv_at hl 2 rfl) ?_
          have hmk_z170 : MkB ta (tf 6).toInt na ma0 ma_54 ca (V1 V) d (pf 13).toInt w2 bh z170 := (by rw [ez170, hkc.f (k := 18) (x := p0.toNatClampNeg) (by decide)]; exact (hc27 (by omega) (by rw [← hkc.f (k := 18) (x := p0.toNatClampNeg) (by decide), ← ez170]; omega)).kc hkc); have hec_z170 := hmk_z170.ec; have hrg_z170 := EcV.rng hec_z170; have hnn_z170 := hmk_z170.nn
          refine lv_iload S.x S.b d_Mpg_makeLoop_97 (lv_at hl 0 rfl) ?_
          refine px_callv (pr := []) (px_runV (As := [.int z170]) (rest := []) S (c_S_make l D cs ma0 ys ns nf d w2 (V1 V) vl vh X9 fi [] lvq bh h r g tf ta pf na ma_54 wa cf ca xf xa ef_54 ea_54 z170  (show (pf 13).toInt ≤ 2100 from by first | exact g2 | omega) (show (tf 6).toInt ≤ 2049 from by first | exact g3 | omega) (show (cf 38).toInt = nf from by first | exact g4 | omega) (show 0 ≤ nf from by first | exact g5 | omega) (show 0 ≤ (ef_54 60).toInt from by first | exact oz_16d7fa9f32 k54_5 g6 | omega) (show (ef_54 60).toInt + w2 ≤ 7000 from by first | with_reducible rfl | with_reducible assumption | omega) (show ([].length : Int) + bh ≤ X9.tall fi from by first | with_reducible rfl | with_reducible assumption | omega) htk (FnT.eq hft (by omega)) hfp han hts hcx hmk_z170 _) hT (pr := []) (pcs := [wdP cs h r g tf ta pf na ma_54 wa cf ca ef_54 ea_54 xf xa]) hw (oX_call (P := (fun A U H => (oP A g U H))) (pr := []) oG_P hw hA hP) (px_recv hT hw 0 0 rfl rfl rfl) m13_90 m13_87 m13_89 ms_14_3 m1_21 q_Mpg_make2 ⟨show (2 * d + 10) + 1 ≤ (5 * d + 14) from by first | with_reducible rfl | with_reducible assumption | omega, show 8 + (8 + 11) + (120 * d + 320) ≤ (200 * d + 630) from by first | with_reducible rfl | with_reducible assumption | omega⟩ hl.1 rfl (Nat.le_of_ble_eq_true rfl) d_Mpg_makeLoop_99 ⟨Nat.le_of_ble_eq_true rfl, Nat.le_of_ble_eq_true rfl⟩) hw hA (fun p277 H locs hp277 hw => ?_)
          obtain ⟨ef275, ea276, rfl, e279, e280, e281, e282, e283, e284⟩ := hp277
          replace e279 : (ef_54 60).toInt ≤ (ef275 60).toInt := e279
          replace e280 : (ef275 60).toInt ≤ (ef_54 60).toInt + w2 := e280
          replace e281 : (ef275 64).toInt = (ef_54 64).toInt := e281
          replace e282 : (ef275 65).toInt = (ef_54 65).toInt := e282
          replace e283 : CdK ea_54 ea276 (ef_54 60).toInt := e283
          have hcd := hcd.tr e283 (by omega)
          replace e284 : SgQ X9 (ea276 61) (ef_54 60).toInt (ef275 60).toInt fi [] (0 :: []) lvq := e284
          replace hw : pw D A s.heap H locs [wdP cs h r g tf ta pf na ma_54 wa cf ca ef275 ea276 xf xa] := hw
          refine lv_aload_n S.x S.b d_Mpg_makeLoop_102 rfl (lv_at hl 2 rfl) ?_
          refine lv_aload_n S.x S.b d_Mpg_makeLoop_103 rfl (lv_at hl 2 rfl) ?_
          refine lv_bipush (v := 13) S.x S.b d_Mpg_makeLoop_104 (by decide) ?_
          refine lv_aload_n S.x S.b d_Mpg_makeLoop_106 rfl (lv_at hl 2 rfl) ?_
          refine px_get S k_Mpg hT hw 0 0 64 (v := .int (ef275 64)) rfl rfl rfl (by decide) m10_64 d_Mpg_makeLoop_107 ?_
          refine lv_iconst (v := 0) S.x S.b d_Mpg_makeLoop_110 (by decide) ?_
          refine px_calli (pr := []) (px_runV (As := [.int 13, .int (ef275 64), .int 0]) (rest := [.ref h]) S (c_mp_emit l D cs h r g tf ta pf na ma_54 wa cf ca xf xa ef275 ea276 13 (ef275 64) 0  (show 0 ≤ (ef275 60).toInt from by first | exact oz_fe2fd2b0f6 e279 k54_5 g6 | omega) (show (ef275 60).toInt < 7000 from by first | with_reducible rfl | with_reducible assumption | omega) _) hT (pr := []) (pcs := [wdP cs h r g tf ta pf na ma_54 wa cf ca ef275 ea276 xf xa]) hw px_X.tt (px_recv hT hw 0 0 rfl rfl rfl) m13_86 m13_83 m13_85 ms_14_2 m1_21 q_Mpg_emit ⟨show 0 + 1 ≤ (5 * d + 14) from by first | with_reducible rfl | with_reducible assumption | omega, show 8 + (4 + 11) + 0 ≤ (200 * d + 630) from by first | with_reducible rfl | with_reducible assumption | omega⟩ hl.1 rfl (Nat.le_of_ble_eq_true rfl) d_Mpg_makeLoop_111 ⟨Nat.le_of_ble_eq_true rfl, Nat.le_of_ble_eq_true rfl⟩) hw hA (fun v290 p289 H locs hp289 hw => ?_)
          obtain ⟨ef287, ea288, rfl, e291, e292, e293, e294, e295⟩ := hp289
          replace e291 : v290.toInt = (ef275 60).toInt := e291
          replace e292 : (ef287 60).toInt = (ef275 60).toInt + 1 := e292
          replace e293 : (ef287 64).toInt = (ef275 64).toInt := e293
          replace e294 : (ef287 65).toInt = (ef275 65).toInt := e294
          replace e295 : EmU ea276 ea288 (ef275 60) (13 : Int32) (ef275 64) (0 : Int32) := e295
          have hcd := hcd.tr e295.cd (by omega)
          have hlh := lpw_ask hlh e283 e284 e295 (by omega) (by omega) (by omega) rfl (by omega) rfl (by omega) (by omega)
          replace hw : pw D A s.heap H locs [wdP cs h r g tf ta pf na ma_54 wa cf ca ef287 ea288 xf xa] := hw
          have lv290 := Int32.le_toInt v290
          have uv290 := Int32.toInt_lt v290
          refine px_put S k_Mpg hT hw 0 0 64 rfl rfl (by decide) m10_64 rfl rfl rfl (Nat.le_of_ble_eq_true rfl) d_Mpg_makeLoop_114 (w' := wdP cs h r g tf ta pf na ma_54 wa cf ca (upd ef287 64 v290) ea288 xf xa) (ps' := [wdP cs h r g tf ta pf na ma_54 wa cf ca (upd ef287 64 v290) ea288 xf xa]) rfl rfl (fun H locs hw => ?_)
          obtain ⟨ef296, hu_ef296⟩ : ∃ y : Nat → Int32, y = upd ef287 64 v290 := ⟨_, rfl⟩; have hw : pw D A s.heap _ _ [wdP cs h r g tf ta pf na ma_54 wa cf ca ef296 ea288 xf xa] := (by rw [hu_ef296]; exact hw); have hn60_ef296 : (ef296 60).toInt = (ef287 60).toInt := (by rw [hu_ef296, pk_un (by decide)]); have hn64_ef296 : (ef296 64).toInt = v290.toInt := (by rw [hu_ef296, pk_us]); have hn65_ef296 : (ef296 65).toInt = (ef287 65).toInt := (by rw [hu_ef296, pk_un (by decide)])
          refine lv_aload_n S.x S.b d_Mpg_makeLoop_117 rfl (lv_at hl 2 rfl) ?_
          refine lv_bipush (v := 19) S.x S.b d_Mpg_makeLoop_118 (by decide) ?_
          refine lv_iconst (v := 0) S.x S.b d_Mpg_makeLoop_120 (by decide) ?_
          refine lv_iconst (v := 0) S.x S.b d_Mpg_makeLoop_121 (by decide) ?_
          refine px_calli (pr := []) (px_runV (As := [.int 19, .int 0, .int 0]) (rest := []) S (c_mp_emit l D cs h r g tf ta pf na ma_54 wa cf ca xf xa ef296 ea288 19 0 0  (show 0 ≤ (ef296 60).toInt from by first | exact oz_086d681647 hn60_ef296 e292 e279 k54_5 g6 | omega) (show (ef296 60).toInt < 7000 from by first | with_reducible rfl | with_reducible assumption | omega) _) hT (pr := []) (pcs := [wdP cs h r g tf ta pf na ma_54 wa cf ca ef296 ea288 xf xa]) hw px_X.tt (px_recv hT hw 0 0 rfl rfl rfl) m13_86 m13_83 m13_85 ms_14_2 m1_21 q_Mpg_emit ⟨show 0 + 1 ≤ (5 * d + 14) from by first | with_reducible rfl | with_reducible assumption | omega, show 8 + (4 + 11) + 0 ≤ (200 * d + 630) from by first | with_reducible rfl | with_reducible assumption | omega⟩ hl.1 rfl (Nat.le_of_ble_eq_true rfl) d_Mpg_makeLoop_122 ⟨Nat.le_of_ble_eq_true rfl, Nat.le_of_ble_eq_true rfl⟩) hw hA (fun v302 p301 H locs hp301 hw => ?_)
          obtain ⟨ef299, ea300, rfl, e303, e304, e305, e306, e307⟩ := hp301
          replace e303 : v302.toInt = (ef296 60).toInt := e303
          replace e304 : (ef299 60).toInt = (ef296 60).toInt + 1 := e304
          replace e305 : (ef299 64).toInt = (ef296 64).toInt := e305
          replace e306 : (ef299 65).toInt = (ef296 65).toInt := e306
          replace e307 : EmU ea288 ea300 (ef296 60) (19 : Int32) (0 : Int32) (0 : Int32) := e307
          have hcd := hcd.tr e307.cd (by omega)
          replace hw : pw D A s.heap H locs [wdP cs h r g tf ta pf na ma_54 wa cf ca ef299 ea300 xf xa] := hw
          have lv302 := Int32.le_toInt v302
          have uv302 := Int32.toInt_lt v302
          refine lv_pop S.x S.b d_Mpg_makeLoop_125 rfl ?_
          refine lv_aload_n S.x S.b d_Mpg_makeLoop_126 rfl (lv_at hl 2 rfl) ?_
          refine lv_iload S.x S.b d_Mpg_makeLoop_127 (lv_at hl 6 rfl) ?_
          refine lv_bipush (v := 27) S.x S.b d_Mpg_makeLoop_129 (by decide) ?_
          refine lv_icmp_ne (tgt := 143) S.x S.b d_Mpg_makeLoop_131 (by decide) (fun c308 => ?_) (fun c308 => ?_)
          · have nc308 : ¬ x54_4.toInt = (27 : Int) := mt (i_eq (x := x54_4) (y := 27)).mpr c308
            exfalso
            omega
          · have nc308 : x54_4.toInt = (27 : Int) := (i_eq (x := x54_4) (y := 27)).mp c308
            refine lv_aload_n S.x S.b d_Mpg_makeLoop_134 rfl (lv_at hl 2 rfl) ?_
            refine px_get S k_Mpg hT hw 0 0 20 (v := .ref (r 20)) rfl rfl rfl (by decide) m10_6 d_Mpg_makeLoop_135 ?_
            refine lv_iload_n S.x S.b d_Mpg_makeLoop_138 rfl (lv_at hl 3 rfl) ?_
            refine px_iald S hT hw 0 16 (n := 2100) (f := (ma_54 20)) rfl gp_20 (x := p0) (vp_in_iff.mpr (by constructor <;> omega)) d_Mpg_makeLoop_139 ?_
            refine lv_topi (fun z309 ez309 => ?_)
            have lz309 := Int32.le_toInt z309
            have uz309 := Int32.toInt_lt z309
            have hsk_z309 : SkB ta (tf 6).toInt na ma0 mb ca V d (pf 13).toInt l2 h2 w4 bh 4 z309 := (by rw [ez309, hkc.f (k := 20) (x := p0.toNatClampNeg) (by decide)]; exact hb27 (by omega)); have hrs_z309 := hsk_z309.rng; have hk9_z309 := k29_r (na := na) (n := z309)
            refine lv_goto (tgt := 149) S.x S.b d_Mpg_makeLoop_140 (by decide) ?_
            refine px_callv (pr := []) (px_runV (As := [.int z309]) (rest := []) S (hLS ma0 mb ys ns nf l2 h2 w4 V vl vh X9 fi (lvq + 1) bh 4 h r g tf ta pf na wa cf ca xf xa ma_54 ef299 ea300 z309 (show 0 ≤ (tf 5).toInt from by first | exact g0 | omega) (show (tf 5).toInt ≤ 2048 from by first | exact g1 | omega) (show (pf 13).toInt ≤ 2100 from by first | exact g2 | omega) (show (tf 6).toInt ≤ 2049 from by first | exact g3 | omega) (show (cf 38).toInt = nf from by first | exact g4 | omega) (show 0 ≤ nf from by first | exact g5 | omega) (show 0 ≤ (ef299 60).toInt from by first | exact oz_4aff4f3d78 e304 hn60_ef296 e292 e279 k54_5 g6 | omega) (show 0 ≤ fi from by first | exact g7 | omega) (show 1 ≤ X9.tall fi from by first | exact g8 | omega) (show bh ≤ X9.tall fi from by first | exact g9 | omega) (show (ef299 60).toInt + w4 ≤ 7000 + k29 na z309 from by first | with_reducible rfl | with_reducible assumption | omega) htk (FnT.eq hft (by omega)) hfp hab hkc htb hcx hsk_z309 _) hT (pr := []) (pcs := [wdP cs h r g tf ta pf na ma_54 wa cf ca ef299 ea300 xf xa]) hw (oX_call (P := (fun A U H => (oP A g U H))) (pr := []) oG_P hw hA hP) (px_recv hT hw 0 0 rfl rfl rfl) m13_126 m13_123 m13_125 ms_14_12 m1_21 q_Mpg_makeStatement ⟨show (5 * d + 12) + 1 ≤ (5 * d + 14) from by first | with_reducible rfl | with_reducible assumption | omega, show 8 + (4 + 11) + (200 * d + 500) ≤ (200 * d + 630) from by first | with_reducible rfl | with_reducible assumption | omega⟩ hl.1 rfl (Nat.le_of_ble_eq_true rfl) d_Mpg_makeLoop_149 ⟨Nat.le_of_ble_eq_true rfl, Nat.le_of_ble_eq_true rfl⟩) hw hA (fun p316 H locs hp316 hw => ?_)
            obtain ⟨ma313, ef314, ea315, rfl, e318, e319, e320, e321, e322, e323, e324⟩ := hp316
            replace e318 : (ef299 60).toInt ≤ (ef314 60).toInt := e318
            replace e319 : (ef314 60).toInt ≤ (ef299 60).toInt + w4 := e319
            replace e320 : CdK ea300 ea315 (ef299 60).toInt := e320
            have hcd := hcd.tr e320 (by omega)
            replace e321 : Kc na mb ma313 := e321
            have hkc := e321
            have han := hab.kc hkc
            have hts := htb.kc hkc
            replace e322 : FrL l2 h2 ma_54 ma313 := e322
            have hfl := hfl.tr e322 (by omega) (by omega)
            replace e323 : StQ X9 (ea315 61) (ef299 60).toInt (ef314 60).toInt fi [] (lvq + 1) 4 (ef299 64) (ef314 64) (ef299 65) (ef314 65) := e323
            replace e324 : StX na ma313 z309 (ef299 60).toInt (ef314 60).toInt (ef299 64).toInt (ef314 64).toInt (ef299 65).toInt (ef314 65).toInt := e324
            replace hw : pw D A s.heap H locs [wdP cs h r g tf ta pf na ma313 wa cf ca ef314 ea315 xf xa] := hw
            refine lv_aload_n S.x S.b d_Mpg_makeLoop_152 rfl (lv_at hl 2 rfl) ?_
            refine lv_aload_n S.x S.b d_Mpg_makeLoop_153 rfl (lv_at hl 2 rfl) ?_
            refine px_get S k_Mpg hT hw 0 0 65 (v := .int (ef314 65)) rfl rfl rfl (by decide) m10_65 d_Mpg_makeLoop_154 ?_
            refine lv_aload_n S.x S.b d_Mpg_makeLoop_157 rfl (lv_at hl 2 rfl) ?_
            refine px_get S k_Mpg hT hw 0 0 60 (v := .int (ef314 60)) rfl rfl rfl (by decide) m10_57 d_Mpg_makeLoop_158 ?_
            obtain ⟨l9, hcn9, hls9, hlb9⟩ := lpw_body (hlh.bq (by omega)) e307 e320 e323 (by omega) rfl (by omega) (by omega) (by omega); have hdc9 := hls9.1; have hlo9 : ∀ x ∈ l9, (ef 60).toInt ≤ (x : Int) := fun x hx => (by have := hls9.2 x hx; omega)
            refine px_callv (pr := []) (px_runV (As := [.int (ef314 65), .int (ef314 60)]) (rest := []) S (c_mp_landAll l D cs ((ef314 60).toInt).toNat l9 h r g tf ta pf na ma313 wa cf ca ef314 xf xa ea315 (ef314 65) (ef314 60)  (show ((ef314 60).toInt).toNat ≤ 7000 from by first | with_reducible rfl | with_reducible assumption | omega) (chn_k hcn9 (by omega)) (hdc9.up (by omega)) _) hT (pr := []) (pcs := [wdP cs h r g tf ta pf na ma313 wa cf ca ef314 ea315 xf xa]) hw px_X.tt (px_recv hT hw 0 0 rfl rfl rfl) m13_102 m13_99 m13_101 ms_14_6 m1_21 q_Mpg_landAll ⟨show 0 + 1 ≤ (5 * d + 14) from by first | with_reducible rfl | with_reducible assumption | omega, show 8 + (5 + 11) + 0 ≤ (200 * d + 630) from by first | with_reducible rfl | with_reducible assumption | omega⟩ hl.1 rfl (Nat.le_of_ble_eq_true rfl) d_Mpg_makeLoop_161 ⟨Nat.le_of_ble_eq_true rfl, Nat.le_of_ble_eq_true rfl⟩) hw hA (fun p327 H locs hp327 hw => ?_)
            obtain ⟨ea326, rfl, e329, e330⟩ := hp327
            replace e329 : EaK ea315 ea326 := e329
            skip
            replace e330 : LaA (ea315 61) (ea326 61) l9 (ef314 60) := e330
            have hcd := hcd.tr (EaK.cd e329 e330 hlo9) (Int.le_refl _)
            replace hw : pw D A s.heap H locs [wdP cs h r g tf ta pf na ma313 wa cf ca ef314 ea326 xf xa] := hw
            have hlb := hlb9 _ _ e330 (by omega)
            refine lv_iload S.x S.b d_Mpg_makeLoop_164 (lv_at hl 6 rfl) ?_
            refine lv_bipush (v := 26) S.x S.b d_Mpg_makeLoop_166 (by decide) ?_
            refine lv_icmp_ne (tgt := 190) S.x S.b d_Mpg_makeLoop_168 (by decide) (fun c331 => ?_) (fun c331 => ?_)
            · have nc331 : ¬ x54_4.toInt = (26 : Int) := mt (i_eq (x := x54_4) (y := 26)).mpr c331
              refine lv_iload S.x S.b d_Mpg_makeLoop_190 (lv_at hl 6 rfl) ?_
              refine lv_bipush (v := 27) S.x S.b d_Mpg_makeLoop_192 (by decide) ?_
              refine lv_icmp_ne (tgt := 225) S.x S.b d_Mpg_makeLoop_194 (by decide) (fun c332 => ?_) (fun c332 => ?_)
              · have nc332 : ¬ x54_4.toInt = (27 : Int) := mt (i_eq (x := x54_4) (y := 27)).mpr c332
                exfalso
                omega
              · have nc332 : x54_4.toInt = (27 : Int) := (i_eq (x := x54_4) (y := 27)).mp c332
                refine lv_aload_n S.x S.b d_Mpg_makeLoop_197 rfl (lv_at hl 2 rfl) ?_
                refine px_get S k_Mpg hT hw 0 0 19 (v := .ref (r 19)) rfl rfl rfl (by decide) m10_5 d_Mpg_makeLoop_198 ?_
                refine lv_iload_n S.x S.b d_Mpg_makeLoop_201 rfl (lv_at hl 3 rfl) ?_
                refine px_iald S hT hw 0 15 (n := 2100) (f := (ma313 19)) rfl gp_19 (x := p0) (vp_in_iff.mpr (by constructor <;> omega)) d_Mpg_makeLoop_202 ?_
                refine lv_topi (fun z333 ez333 => ?_)
                have lz333 := Int32.le_toInt z333
                have uz333 := Int32.toInt_lt z333
                refine lv_if_lt (tgt := 225) S.x S.b d_Mpg_makeLoop_203 (by decide) (fun c334 => ?_) (fun c334 => ?_)
                · have nc334 : z333.toInt < (0 : Int) := (i_lt (x := z333) (y := 0)).mp c334
                  refine lv_aload_n S.x S.b d_Mpg_makeLoop_225 rfl (lv_at hl 2 rfl) ?_
                  refine lv_bipush (v := 12) S.x S.b d_Mpg_makeLoop_226 (by decide) ?_
                  refine lv_iload S.x S.b d_Mpg_makeLoop_228 (lv_at hl 1 rfl) ?_
                  refine lv_iconst (v := 0) S.x S.b d_Mpg_makeLoop_230 (by decide) ?_
                  refine px_calli (pr := []) (px_runV (As := [.int 12, .int (ef_54 60), .int 0]) (rest := []) S (c_mp_emit l D cs h r g tf ta pf na ma313 wa cf ca xf xa ef314 ea326 12 (ef_54 60) 0  (show 0 ≤ (ef314 60).toInt from by first | exact oz_761957d640 e318 e304 hn60_ef296 e292 e279 k54_5 g6 | omega) (show (ef314 60).toInt < 7000 from by first | with_reducible rfl | with_reducible assumption | omega) _) hT (pr := []) (pcs := [wdP cs h r g tf ta pf na ma313 wa cf ca ef314 ea326 xf xa]) hw px_X.tt (px_recv hT hw 0 0 rfl rfl rfl) m13_86 m13_83 m13_85 ms_14_2 m1_21 q_Mpg_emit ⟨show 0 + 1 ≤ (5 * d + 14) from by first | with_reducible rfl | with_reducible assumption | omega, show 8 + (4 + 11) + 0 ≤ (200 * d + 630) from by first | with_reducible rfl | with_reducible assumption | omega⟩ hl.1 rfl (Nat.le_of_ble_eq_true rfl) d_Mpg_makeLoop_231 ⟨Nat.le_of_ble_eq_true rfl, Nat.le_of_ble_eq_true rfl⟩) hw hA (fun v340 p339 H locs hp339 hw => ?_)
                  obtain ⟨ef337, ea338, rfl, e341, e342, e343, e344, e345⟩ := hp339
                  replace e341 : v340.toInt = (ef314 60).toInt := e341
                  replace e342 : (ef337 60).toInt = (ef314 60).toInt + 1 := e342
                  replace e343 : (ef337 64).toInt = (ef314 64).toInt := e343
                  replace e344 : (ef337 65).toInt = (ef314 65).toInt := e344
                  replace e345 : EmU ea326 ea338 (ef314 60) (12 : Int32) (ef_54 60) (0 : Int32) := e345
                  have hcd := hcd.tr e345.cd (by omega)
                  have hle := lpw_go hlb CdK.rf (sgq_0 (by omega)) e345 rfl (by omega) rfl (by omega) rfl (by omega)
                  replace hw : pw D A s.heap H locs [wdP cs h r g tf ta pf na ma313 wa cf ca ef337 ea338 xf xa] := hw
                  have lv340 := Int32.le_toInt v340
                  have uv340 := Int32.toInt_lt v340
                  refine lv_pop S.x S.b d_Mpg_makeLoop_234 rfl ?_
                  refine lv_aload_n S.x S.b d_Mpg_makeLoop_235 rfl (lv_at hl 2 rfl) ?_
                  refine lv_aload_n S.x S.b d_Mpg_makeLoop_236 rfl (lv_at hl 2 rfl) ?_
                  refine px_get S k_Mpg hT hw 0 0 64 (v := .int (ef337 64)) rfl rfl rfl (by decide) m10_64 d_Mpg_makeLoop_237 ?_
                  refine lv_aload_n S.x S.b d_Mpg_makeLoop_240 rfl (lv_at hl 2 rfl) ?_
                  refine px_get S k_Mpg hT hw 0 0 60 (v := .int (ef337 60)) rfl rfl rfl (by decide) m10_57 d_Mpg_makeLoop_241 ?_
                  obtain ⟨hls0, l9, hcn9, hls9, hst9⟩ := hle; have hdc9 := hls9.1; have hlo9 : ∀ x ∈ l9, (ef 60).toInt ≤ (x : Int) := fun x hx => (by have := hls9.2 x hx; omega)
                  refine px_callv (pr := []) (px_runV (As := [.int (ef337 64), .int (ef337 60)]) (rest := []) S (c_mp_landAll l D cs ((ef337 60).toInt).toNat l9 h r g tf ta pf na ma313 wa cf ca ef337 xf xa ea338 (ef337 64) (ef337 60)  (show ((ef337 60).toInt).toNat ≤ 7000 from by first | with_reducible rfl | with_reducible assumption | omega) (chn_k hcn9 (by omega)) (hdc9.up (by omega)) _) hT (pr := []) (pcs := [wdP cs h r g tf ta pf na ma313 wa cf ca ef337 ea338 xf xa]) hw px_X.tt (px_recv hT hw 0 0 rfl rfl rfl) m13_102 m13_99 m13_101 ms_14_6 m1_21 q_Mpg_landAll ⟨show 0 + 1 ≤ (5 * d + 14) from by first | with_reducible rfl | with_reducible assumption | omega, show 8 + (5 + 11) + 0 ≤ (200 * d + 630) from by first | with_reducible rfl | with_reducible assumption | omega⟩ hl.1 rfl (Nat.le_of_ble_eq_true rfl) d_Mpg_makeLoop_244 ⟨Nat.le_of_ble_eq_true rfl, Nat.le_of_ble_eq_true rfl⟩) hw hA (fun p348 H locs hp348 hw => ?_)
                  obtain ⟨ea347, rfl, e350, e351⟩ := hp348
                  replace e350 : EaK ea338 ea347 := e350
                  skip
                  replace e351 : LaA (ea338 61) (ea347 61) l9 (ef337 60) := e351
                  have hcd := hcd.tr (EaK.cd e350 e351 hlo9) (Int.le_refl _)
                  replace hw : pw D A s.heap H locs [wdP cs h r g tf ta pf na ma313 wa cf ca ef337 ea347 xf xa] := hw
                  refine lv_aload_n S.x S.b d_Mpg_makeLoop_247 rfl (lv_at hl 2 rfl) ?_
                  refine lv_iload_n S.x S.b d_Mpg_makeLoop_248 rfl (lv_at hl 4 rfl) ?_
                  refine px_put S k_Mpg hT hw 0 0 64 rfl rfl (by decide) m10_64 rfl rfl rfl (Nat.le_of_ble_eq_true rfl) d_Mpg_makeLoop_249 (w' := wdP cs h r g tf ta pf na ma313 wa cf ca (upd ef337 64 x54_2) ea347 xf xa) (ps' := [wdP cs h r g tf ta pf na ma313 wa cf ca (upd ef337 64 x54_2) ea347 xf xa]) rfl rfl (fun H locs hw => ?_)
                  obtain ⟨ef352, hu_ef352⟩ : ∃ y : Nat → Int32, y = upd ef337 64 x54_2 := ⟨_, rfl⟩; have hw : pw D A s.heap _ _ [wdP cs h r g tf ta pf na ma313 wa cf ca ef352 ea347 xf xa] := (by rw [hu_ef352]; exact hw); have hn60_ef352 : (ef352 60).toInt = (ef337 60).toInt := (by rw [hu_ef352, pk_un (by decide)]); have hn64_ef352 : (ef352 64).toInt = x54_2.toInt := (by rw [hu_ef352, pk_us]); have hn65_ef352 : (ef352 65).toInt = (ef337 65).toInt := (by rw [hu_ef352, pk_un (by decide)])
                  refine lv_aload_n S.x S.b d_Mpg_makeLoop_252 rfl (lv_at hl 2 rfl) ?_
                  refine lv_iload_n S.x S.b d_Mpg_makeLoop_253 rfl (lv_at hl 5 rfl) ?_
                  refine px_put S k_Mpg hT hw 0 0 65 rfl rfl (by decide) m10_65 rfl rfl rfl (Nat.le_of_ble_eq_true rfl) d_Mpg_makeLoop_254 (w' := wdP cs h r g tf ta pf na ma313 wa cf ca (upd ef352 65 x54_3) ea347 xf xa) (ps' := [wdP cs h r g tf ta pf na ma313 wa cf ca (upd ef352 65 x54_3) ea347 xf xa]) rfl rfl (fun H locs hw => ?_)
                  obtain ⟨ef353, hu_ef353⟩ : ∃ y : Nat → Int32, y = upd ef352 65 x54_3 := ⟨_, rfl⟩; have hw : pw D A s.heap _ _ [wdP cs h r g tf ta pf na ma313 wa cf ca ef353 ea347 xf xa] := (by rw [hu_ef353]; exact hw); have hn60_ef353 : (ef353 60).toInt = (ef352 60).toInt := (by rw [hu_ef353, pk_un (by decide)]); have hn64_ef353 : (ef353 64).toInt = (ef352 64).toInt := (by rw [hu_ef353, pk_un (by decide)]); have hn65_ef353 : (ef353 65).toInt = x54_3.toInt := (by rw [hu_ef353, pk_us])
                  exact px_vret S hr hlk hAe hw (Nat.le_of_ble_eq_true rfl) (Nat.le_of_ble_eq_true rfl) (⟨ma313, ef353, ea347, rfl, (show (ef 60).toInt ≤ (ef353 60).toInt from by first | exact oz_cdfc221724 k54_5 hn60_ef353 e279 hn60_ef352 e292 e342 hn60_ef296 e318 e304 | omega), (show (ef353 60).toInt ≤ (ef 60).toInt + wt from by first | with_reducible rfl | with_reducible assumption | omega), (show CdK ea ea347 (ef 60).toInt from hcd), (show Kc na mb ma313 from hkc), (show FrL lo hi ma ma313 from hfl), (show StQ X9 (ea347 61) (ef 60).toInt (ef353 60).toInt fi [] lvq t9 (ef 64) (ef353 64) (ef 65) (ef353 65) from ((hst9 _ _ e351 (by omega) t9 (ef 64) (ef 64) (ef 65) (ef 65) rfl rfl).tq (by omega) (by omega) (by omega) (by omega) (by omega) (by omega)))⟩) d_Mpg_makeLoop_257
                · have nc334 : ¬ z333.toInt < (0 : Int) := mt (i_lt (x := z333) (y := 0)).mpr c334
                  refine lv_aload_n S.x S.b d_Mpg_makeLoop_206 rfl (lv_at hl 2 rfl) ?_
                  refine lv_aload_n S.x S.b d_Mpg_makeLoop_207 rfl (lv_at hl 2 rfl) ?_
                  refine px_get S k_Mpg hT hw 0 0 19 (v := .ref (r 19)) rfl rfl rfl (by decide) m10_5 d_Mpg_makeLoop_208 ?_
                  refine lv_iload_n S.x S.b d_Mpg_makeLoop_211 rfl (lv_at hl 3 rfl) ?_
                  refine px_iald S hT hw 0 15 (n := 2100) (f := (ma313 19)) rfl gp_19 (x := p0) (vp_in_iff.mpr (by constructor <;> omega)) d_Mpg_makeLoop_212 ?_
                  refine lv_topi (fun z354 ez354 => ?_)
                  have lz354 := Int32.le_toInt z354
                  have uz354 := Int32.toInt_lt z354
                  have hmk_z354 : MkB ta (tf 6).toInt na ma0 ma313 ca (V1 V) d (pf 13).toInt w3 bh z354 := (by rw [ez354, hkc.g (x := p0.toNatClampNeg) (by omega)]; exact (hd27 (by omega) (by rw [← hkc.g (x := p0.toNatClampNeg) (by omega), ← ez333]; omega)).kc hkc); have hec_z354 := hmk_z354.ec; have hrg_z354 := EcV.rng hec_z354; have hnn_z354 := hmk_z354.nn
                  refine px_callv (pr := []) (px_runV (As := [.int z354]) (rest := []) S (c_S_make l D cs ma0 ys ns nf d w3 (V1 V) vl vh X9 fi [] (lvq + 1) bh h r g tf ta pf na ma313 wa cf ca xf xa ef314 ea326 z354  (show (pf 13).toInt ≤ 2100 from by first | exact g2 | omega) (show (tf 6).toInt ≤ 2049 from by first | exact g3 | omega) (show (cf 38).toInt = nf from by first | exact g4 | omega) (show 0 ≤ nf from by first | exact g5 | omega) (show 0 ≤ (ef314 60).toInt from by first | exact oz_761957d640 e318 e304 hn60_ef296 e292 e279 k54_5 g6 | omega) (show (ef314 60).toInt + w3 ≤ 7000 from by first | with_reducible rfl | with_reducible assumption | omega) (show ([].length : Int) + bh ≤ X9.tall fi from by first | with_reducible rfl | with_reducible assumption | omega) htk (FnT.eq hft (by omega)) hfp han hts hcx hmk_z354 _) hT (pr := []) (pcs := [wdP cs h r g tf ta pf na ma313 wa cf ca ef314 ea326 xf xa]) hw (oX_call (P := (fun A U H => (oP A g U H))) (pr := []) oG_P hw hA hP) (px_recv hT hw 0 0 rfl rfl rfl) m13_90 m13_87 m13_89 ms_14_3 m1_21 q_Mpg_make2 ⟨show (2 * d + 10) + 1 ≤ (5 * d + 14) from by first | with_reducible rfl | with_reducible assumption | omega, show 8 + (8 + 11) + (120 * d + 320) ≤ (200 * d + 630) from by first | with_reducible rfl | with_reducible assumption | omega⟩ hl.1 rfl (Nat.le_of_ble_eq_true rfl) d_Mpg_makeLoop_213 ⟨Nat.le_of_ble_eq_true rfl, Nat.le_of_ble_eq_true rfl⟩) hw hA (fun p359 H locs hp359 hw => ?_)
                  obtain ⟨ef357, ea358, rfl, e361, e362, e363, e364, e365, e366⟩ := hp359
                  replace e361 : (ef314 60).toInt ≤ (ef357 60).toInt := e361
                  replace e362 : (ef357 60).toInt ≤ (ef314 60).toInt + w3 := e362
                  replace e363 : (ef357 64).toInt = (ef314 64).toInt := e363
                  replace e364 : (ef357 65).toInt = (ef314 65).toInt := e364
                  replace e365 : CdK ea326 ea358 (ef314 60).toInt := e365
                  have hcd := hcd.tr e365 (by omega)
                  replace e366 : SgQ X9 (ea358 61) (ef314 60).toInt (ef357 60).toInt fi [] (0 :: []) (lvq + 1) := e366
                  replace hw : pw D A s.heap H locs [wdP cs h r g tf ta pf na ma313 wa cf ca ef357 ea358 xf xa] := hw
                  refine lv_aload_n S.x S.b d_Mpg_makeLoop_216 rfl (lv_at hl 2 rfl) ?_
                  refine lv_bipush (v := 17) S.x S.b d_Mpg_makeLoop_217 (by decide) ?_
                  refine lv_iconst (v := 0) S.x S.b d_Mpg_makeLoop_219 (by decide) ?_
                  refine lv_iconst (v := 0) S.x S.b d_Mpg_makeLoop_220 (by decide) ?_
                  refine px_calli (pr := []) (px_runV (As := [.int 17, .int 0, .int 0]) (rest := []) S (c_mp_emit l D cs h r g tf ta pf na ma313 wa cf ca xf xa ef357 ea358 17 0 0  (show 0 ≤ (ef357 60).toInt from by first | exact oz_a43532ff41 e361 e318 e304 hn60_ef296 e292 e279 k54_5 g6 | omega) (show (ef357 60).toInt < 7000 from by first | with_reducible rfl | with_reducible assumption | omega) _) hT (pr := []) (pcs := [wdP cs h r g tf ta pf na ma313 wa cf ca ef357 ea358 xf xa]) hw px_X.tt (px_recv hT hw 0 0 rfl rfl rfl) m13_86 m13_83 m13_85 ms_14_2 m1_21 q_Mpg_emit ⟨show 0 + 1 ≤ (5 * d + 14) from by first | with_reducible rfl | with_reducible assumption | omega, show 8 + (4 + 11) + 0 ≤ (200 * d + 630) from by first | with_reducible rfl | with_reducible assumption | omega⟩ hl.1 rfl (Nat.le_of_ble_eq_true rfl) d_Mpg_makeLoop_221 ⟨Nat.le_of_ble_eq_true rfl, Nat.le_of_ble_eq_true rfl⟩) hw hA (fun v372 p371 H locs hp371 hw => ?_)
                  obtain ⟨ef369, ea370, rfl, e373, e374, e375, e376, e377⟩ := hp371
                  replace e373 : v372.toInt = (ef357 60).toInt := e373
                  replace e374 : (ef369 60).toInt = (ef357 60).toInt + 1 := e374
                  replace e375 : (ef369 64).toInt = (ef357 64).toInt := e375
                  replace e376 : (ef369 65).toInt = (ef357 65).toInt := e376
                  replace e377 : EmU ea358 ea370 (ef357 60) (17 : Int32) (0 : Int32) (0 : Int32) := e377
                  have hcd := hcd.tr e377.cd (by omega)
                  replace hw : pw D A s.heap H locs [wdP cs h r g tf ta pf na ma313 wa cf ca ef369 ea370 xf xa] := hw
                  have lv372 := Int32.le_toInt v372
                  have uv372 := Int32.toInt_lt v372
                  refine lv_pop S.x S.b d_Mpg_makeLoop_224 rfl ?_
                  refine lv_aload_n S.x S.b d_Mpg_makeLoop_225 rfl (lv_at hl 2 rfl) ?_
                  refine lv_bipush (v := 12) S.x S.b d_Mpg_makeLoop_226 (by decide) ?_
                  refine lv_iload S.x S.b d_Mpg_makeLoop_228 (lv_at hl 1 rfl) ?_
                  refine lv_iconst (v := 0) S.x S.b d_Mpg_makeLoop_230 (by decide) ?_
                  refine px_calli (pr := []) (px_runV (As := [.int 12, .int (ef_54 60), .int 0]) (rest := []) S (c_mp_emit l D cs h r g tf ta pf na ma313 wa cf ca xf xa ef369 ea370 12 (ef_54 60) 0  (show 0 ≤ (ef369 60).toInt from by first | exact oz_9f922ef40d e374 e361 e318 e304 hn60_ef296 e292 e279 k54_5 g6 | omega) (show (ef369 60).toInt < 7000 from by first | with_reducible rfl | with_reducible assumption | omega) _) hT (pr := []) (pcs := [wdP cs h r g tf ta pf na ma313 wa cf ca ef369 ea370 xf xa]) hw px_X.tt (px_recv hT hw 0 0 rfl rfl rfl) m13_86 m13_83 m13_85 ms_14_2 m1_21 q_Mpg_emit ⟨show 0 + 1 ≤ (5 * d + 14) from by first | with_reducible rfl | with_reducible assumption | omega, show 8 + (4 + 11) + 0 ≤ (200 * d + 630) from by first | with_reducible rfl | with_reducible assumption | omega⟩ hl.1 rfl (Nat.le_of_ble_eq_true rfl) d_Mpg_makeLoop_231 ⟨Nat.le_of_ble_eq_true rfl, Nat.le_of_ble_eq_true rfl⟩) hw hA (fun v383 p382 H locs hp382 hw => ?_)
                  obtain ⟨ef380, ea381, rfl, e384, e385, e386, e387, e388⟩ := hp382
                  replace e384 : v383.toInt = (ef369 60).toInt := e384
                  replace e385 : (ef380 60).toInt = (ef369 60).toInt + 1 := e385
                  replace e386 : (ef380 64).toInt = (ef369 64).toInt := e386
                  replace e387 : (ef380 65).toInt = (ef369 65).toInt := e387
                  replace e388 : EmU ea370 ea381 (ef369 60) (12 : Int32) (ef_54 60) (0 : Int32) := e388
                  have hcd := hcd.tr e388.cd (by omega)
                  have hle := lpw_go hlb (e365.tr e377.cd (by omega)) (e366.em e377 (by omega) rfl (by omega) (.pop [] rfl)) e388 (by omega) (by omega) rfl (by omega) rfl (by omega)
                  replace hw : pw D A s.heap H locs [wdP cs h r g tf ta pf na ma313 wa cf ca ef380 ea381 xf xa] := hw
                  have lv383 := Int32.le_toInt v383
                  have uv383 := Int32.toInt_lt v383
                  refine lv_pop S.x S.b d_Mpg_makeLoop_234 rfl ?_
                  refine lv_aload_n S.x S.b d_Mpg_makeLoop_235 rfl (lv_at hl 2 rfl) ?_
                  refine lv_aload_n S.x S.b d_Mpg_makeLoop_236 rfl (lv_at hl 2 rfl) ?_
                  refine px_get S k_Mpg hT hw 0 0 64 (v := .int (ef380 64)) rfl rfl rfl (by decide) m10_64 d_Mpg_makeLoop_237 ?_
                  refine lv_aload_n S.x S.b d_Mpg_makeLoop_240 rfl (lv_at hl 2 rfl) ?_
                  refine px_get S k_Mpg hT hw 0 0 60 (v := .int (ef380 60)) rfl rfl rfl (by decide) m10_57 d_Mpg_makeLoop_241 ?_
                  obtain ⟨hls0, l9, hcn9, hls9, hst9⟩ := hle; have hdc9 := hls9.1; have hlo9 : ∀ x ∈ l9, (ef 60).toInt ≤ (x : Int) := fun x hx => (by have := hls9.2 x hx; omega)
                  refine px_callv (pr := []) (px_runV (As := [.int (ef380 64), .int (ef380 60)]) (rest := []) S (c_mp_landAll l D cs ((ef380 60).toInt).toNat l9 h r g tf ta pf na ma313 wa cf ca ef380 xf xa ea381 (ef380 64) (ef380 60)  (show ((ef380 60).toInt).toNat ≤ 7000 from by first | with_reducible rfl | with_reducible assumption | omega) (chn_k hcn9 (by omega)) (hdc9.up (by omega)) _) hT (pr := []) (pcs := [wdP cs h r g tf ta pf na ma313 wa cf ca ef380 ea381 xf xa]) hw px_X.tt (px_recv hT hw 0 0 rfl rfl rfl) m13_102 m13_99 m13_101 ms_14_6 m1_21 q_Mpg_landAll ⟨show 0 + 1 ≤ (5 * d + 14) from by first | with_reducible rfl | with_reducible assumption | omega, show 8 + (5 + 11) + 0 ≤ (200 * d + 630) from by first | with_reducible rfl | with_reducible assumption | omega⟩ hl.1 rfl (Nat.le_of_ble_eq_true rfl) d_Mpg_makeLoop_244 ⟨Nat.le_of_ble_eq_true rfl, Nat.le_of_ble_eq_true rfl⟩) hw hA (fun p391 H locs hp391 hw => ?_)
                  obtain ⟨ea390, rfl, e393, e394⟩ := hp391
                  replace e393 : EaK ea381 ea390 := e393
                  skip
                  replace e394 : LaA (ea381 61) (ea390 61) l9 (ef380 60) := e394
                  have hcd := hcd.tr (EaK.cd e393 e394 hlo9) (Int.le_refl _)
                  replace hw : pw D A s.heap H locs [wdP cs h r g tf ta pf na ma313 wa cf ca ef380 ea390 xf xa] := hw
                  refine lv_aload_n S.x S.b d_Mpg_makeLoop_247 rfl (lv_at hl 2 rfl) ?_
                  refine lv_iload_n S.x S.b d_Mpg_makeLoop_248 rfl (lv_at hl 4 rfl) ?_
                  refine px_put S k_Mpg hT hw 0 0 64 rfl rfl (by decide) m10_64 rfl rfl rfl (Nat.le_of_ble_eq_true rfl) d_Mpg_makeLoop_249 (w' := wdP cs h r g tf ta pf na ma313 wa cf ca (upd ef380 64 x54_2) ea390 xf xa) (ps' := [wdP cs h r g tf ta pf na ma313 wa cf ca (upd ef380 64 x54_2) ea390 xf xa]) rfl rfl (fun H locs hw => ?_)
                  obtain ⟨ef395, hu_ef395⟩ : ∃ y : Nat → Int32, y = upd ef380 64 x54_2 := ⟨_, rfl⟩; have hw : pw D A s.heap _ _ [wdP cs h r g tf ta pf na ma313 wa cf ca ef395 ea390 xf xa] := (by rw [hu_ef395]; exact hw); have hn60_ef395 : (ef395 60).toInt = (ef380 60).toInt := (by rw [hu_ef395, pk_un (by decide)]); have hn64_ef395 : (ef395 64).toInt = x54_2.toInt := (by rw [hu_ef395, pk_us]); have hn65_ef395 : (ef395 65).toInt = (ef380 65).toInt := (by rw [hu_ef395, pk_un (by decide)])
                  refine lv_aload_n S.x S.b d_Mpg_makeLoop_252 rfl (lv_at hl 2 rfl) ?_
                  refine lv_iload_n S.x S.b d_Mpg_makeLoop_253 rfl (lv_at hl 5 rfl) ?_
                  refine px_put S k_Mpg hT hw 0 0 65 rfl rfl (by decide) m10_65 rfl rfl rfl (Nat.le_of_ble_eq_true rfl) d_Mpg_makeLoop_254 (w' := wdP cs h r g tf ta pf na ma313 wa cf ca (upd ef395 65 x54_3) ea390 xf xa) (ps' := [wdP cs h r g tf ta pf na ma313 wa cf ca (upd ef395 65 x54_3) ea390 xf xa]) rfl rfl (fun H locs hw => ?_)
                  obtain ⟨ef396, hu_ef396⟩ : ∃ y : Nat → Int32, y = upd ef395 65 x54_3 := ⟨_, rfl⟩; have hw : pw D A s.heap _ _ [wdP cs h r g tf ta pf na ma313 wa cf ca ef396 ea390 xf xa] := (by rw [hu_ef396]; exact hw); have hn60_ef396 : (ef396 60).toInt = (ef395 60).toInt := (by rw [hu_ef396, pk_un (by decide)]); have hn64_ef396 : (ef396 64).toInt = (ef395 64).toInt := (by rw [hu_ef396, pk_un (by decide)]); have hn65_ef396 : (ef396 65).toInt = x54_3.toInt := (by rw [hu_ef396, pk_us])
                  exact px_vret S hr hlk hAe hw (Nat.le_of_ble_eq_true rfl) (Nat.le_of_ble_eq_true rfl) (⟨ma313, ef396, ea390, rfl, (show (ef 60).toInt ≤ (ef396 60).toInt from by first | exact oz_11944bb4bc k54_5 hn60_ef396 e279 hn60_ef395 e292 e385 hn60_ef296 e374 e304 e361 e318 | omega), (show (ef396 60).toInt ≤ (ef 60).toInt + wt from by first | with_reducible rfl | with_reducible assumption | omega), (show CdK ea ea390 (ef 60).toInt from hcd), (show Kc na mb ma313 from hkc), (show FrL lo hi ma ma313 from hfl), (show StQ X9 (ea390 61) (ef 60).toInt (ef396 60).toInt fi [] lvq t9 (ef 64) (ef396 64) (ef 65) (ef396 65) from ((hst9 _ _ e394 (by omega) t9 (ef 64) (ef 64) (ef 65) (ef 65) rfl rfl).tq (by omega) (by omega) (by omega) (by omega) (by omega) (by omega)))⟩) d_Mpg_makeLoop_257
            · have nc331 : x54_4.toInt = (26 : Int) := (i_eq (x := x54_4) (y := 26)).mp c331
              exfalso
              omega
  refine lv_aload_n S.x S.b d_Mpg_makeLoop_0 rfl (lv_at hl 0 rfl) ?_
  refine px_get S k_Mpg hT hw 0 0 64 (v := .int (ef 64)) rfl rfl rfl (by decide) m10_64 d_Mpg_makeLoop_1 ?_
  refine lv_istore_n (lv' := [(2, .int (ef 64)), (0, .ref h), (1, .int p0)]) S.x S.b d_Mpg_makeLoop_4 rfl hl (by decide) rfl (fun ls hl => ?_)
  refine lv_aload_n S.x S.b d_Mpg_makeLoop_5 rfl (lv_at hl 1 rfl) ?_
  refine px_get S k_Mpg hT hw 0 0 65 (v := .int (ef 65)) rfl rfl rfl (by decide) m10_65 d_Mpg_makeLoop_6 ?_
  refine lv_istore_n (lv' := [(3, .int (ef 65)), (2, .int (ef 64)), (0, .ref h), (1, .int p0)]) S.x S.b d_Mpg_makeLoop_9 rfl hl (by decide) rfl (fun ls hl => ?_)
  refine lv_aload_n S.x S.b d_Mpg_makeLoop_10 rfl (lv_at hl 2 rfl) ?_
  refine lv_iconst (v := (-1)) S.x S.b d_Mpg_makeLoop_11 (by decide) ?_
  refine px_put S k_Mpg hT hw 0 0 64 rfl rfl (by decide) m10_64 rfl rfl rfl (Nat.le_of_ble_eq_true rfl) d_Mpg_makeLoop_12 (w' := wdP cs h r g tf ta pf na ma wa cf ca (upd ef 64 (-1)) ea xf xa) (ps' := [wdP cs h r g tf ta pf na ma wa cf ca (upd ef 64 (-1)) ea xf xa]) rfl rfl (fun H locs hw => ?_)
  obtain ⟨ef397, hu_ef397⟩ : ∃ y : Nat → Int32, y = upd ef 64 (-1 : Int32) := ⟨_, rfl⟩; have hw : pw D A s.heap _ _ [wdP cs h r g tf ta pf na ma wa cf ca ef397 ea xf xa] := (by rw [hu_ef397]; exact hw); have hn60_ef397 : (ef397 60).toInt = (ef 60).toInt := (by rw [hu_ef397, pk_un (by decide)]); have hn64_ef397 : (ef397 64).toInt = (-1 : Int) := (by rw [hu_ef397, pk_us]; rfl); have hn65_ef397 : (ef397 65).toInt = (ef 65).toInt := (by rw [hu_ef397, pk_un (by decide)])
  refine lv_aload_n S.x S.b d_Mpg_makeLoop_15 rfl (lv_at hl 2 rfl) ?_
  refine lv_iconst (v := (-1)) S.x S.b d_Mpg_makeLoop_16 (by decide) ?_
  refine px_put S k_Mpg hT hw 0 0 65 rfl rfl (by decide) m10_65 rfl rfl rfl (Nat.le_of_ble_eq_true rfl) d_Mpg_makeLoop_17 (w' := wdP cs h r g tf ta pf na ma wa cf ca (upd ef397 65 (-1)) ea xf xa) (ps' := [wdP cs h r g tf ta pf na ma wa cf ca (upd ef397 65 (-1)) ea xf xa]) rfl rfl (fun H locs hw => ?_)
  obtain ⟨ef398, hu_ef398⟩ : ∃ y : Nat → Int32, y = upd ef397 65 (-1 : Int32) := ⟨_, rfl⟩; have hw : pw D A s.heap _ _ [wdP cs h r g tf ta pf na ma wa cf ca ef398 ea xf xa] := (by rw [hu_ef398]; exact hw); have hn60_ef398 : (ef398 60).toInt = (ef397 60).toInt := (by rw [hu_ef398, pk_un (by decide)]); have hn64_ef398 : (ef398 64).toInt = (ef397 64).toInt := (by rw [hu_ef398, pk_un (by decide)]); have hn65_ef398 : (ef398 65).toInt = (-1 : Int) := (by rw [hu_ef398, pk_us]; rfl)
  refine lv_aload_n S.x S.b d_Mpg_makeLoop_20 rfl (lv_at hl 2 rfl) ?_
  refine px_get S k_Mpg hT hw 0 0 14 (v := .ref (r 14)) rfl rfl rfl (by decide) m9_238 d_Mpg_makeLoop_21 ?_
  refine lv_iload_n S.x S.b d_Mpg_makeLoop_24 rfl (lv_at hl 3 rfl) ?_
  refine px_bald S hT hw 0 10 (n := 2100) (f := (na 14)) rfl gp_14 (x := p0) (vp_in_iff.mpr (by constructor <;> omega)) d_Mpg_makeLoop_25 ?_
  refine lv_topi (fun z399 ez399 => ?_)
  have lz399 := Int32.le_toInt z399
  have uz399 := Int32.toInt_lt z399
  have rz399 : z399.toInt = (na 14 p0.toNatClampNeg).toInt := by rw [ez399]
  refine lv_istore (lv' := [(4, .int z399), (3, .int (ef 65)), (2, .int (ef 64)), (0, .ref h), (1, .int p0)]) S.x S.b d_Mpg_makeLoop_26 hl (by decide) rfl (fun ls hl => ?_)
  refine lv_iload S.x S.b d_Mpg_makeLoop_28 (lv_at hl 0 rfl) ?_
  refine lv_bipush (v := 27) S.x S.b d_Mpg_makeLoop_30 (by decide) ?_
  refine lv_icmp_ne (tgt := 54) S.x S.b d_Mpg_makeLoop_32 (by decide) (fun c400 => ?_) (fun c400 => ?_)
  · have nc400 : ¬ z399.toInt = (27 : Int) := mt (i_eq (x := z399) (y := 27)).mpr c400
    exact J54 ma ef398 ea (ef 64) (ef 65) z399 _ _ ls (show (ef 64).toInt = (ef 64).toInt from rfl) (show (ef 65).toInt = (ef 65).toInt from rfl) (show z399.toInt = (na 14 p0.toNatClampNeg).toInt from by first | exact rz399 | omega) (show (ef398 64).toInt = -1 from by first | exact oz_acc2a3d5a9 hn64_ef398 hn64_ef397 | omega) (show (ef398 65).toInt = -1 from by first | exact oz_ae47b2e413 hn65_ef398 | omega) (show (ef 60).toInt ≤ (ef398 60).toInt from by first | exact oz_d01699e821 hn60_ef397 hn60_ef398 | omega) (show (ef398 60).toInt ≤ (ef 60).toInt + w1 from by first | with_reducible rfl | with_reducible assumption | omega) (show CdK ea ea (ef 60).toInt from hcd) (show Kc na mb ma from hkc) (show FrL lo hi ma ma from hfl) (show LpH X9 (ea 61) (ef 60).toInt (ef398 60).toInt (ef398 60).toInt fi [] lvq (ef398 64) from (lpw_0 (by omega) (by omega) (by omega))) hw (lv_sub hl [3, 4, 2, 1, 0] rfl)
  · have nc400 : z399.toInt = (27 : Int) := (i_eq (x := z399) (y := 27)).mp c400
    refine lv_aload_n S.x S.b d_Mpg_makeLoop_35 rfl (lv_at hl 3 rfl) ?_
    refine px_get S k_Mpg hT hw 0 0 17 (v := .ref (r 17)) rfl rfl rfl (by decide) m10_1 d_Mpg_makeLoop_36 ?_
    refine lv_iload_n S.x S.b d_Mpg_makeLoop_39 rfl (lv_at hl 4 rfl) ?_
    refine px_iald S hT hw 0 13 (n := 2100) (f := (na 17)) rfl gp_17 (x := p0) (vp_in_iff.mpr (by constructor <;> omega)) d_Mpg_makeLoop_40 ?_
    refine lv_topi (fun z401 ez401 => ?_)
    have lz401 := Int32.le_toInt z401
    have uz401 := Int32.toInt_lt z401
    refine lv_if_lt (tgt := 54) S.x S.b d_Mpg_makeLoop_41 (by decide) (fun c402 => ?_) (fun c402 => ?_)
    · have nc402 : z401.toInt < (0 : Int) := (i_lt (x := z401) (y := 0)).mp c402
      exact J54 ma ef398 ea (ef 64) (ef 65) z399 _ _ ls (show (ef 64).toInt = (ef 64).toInt from rfl) (show (ef 65).toInt = (ef 65).toInt from rfl) (show z399.toInt = (na 14 p0.toNatClampNeg).toInt from by first | exact rz399 | omega) (show (ef398 64).toInt = -1 from by first | exact oz_acc2a3d5a9 hn64_ef398 hn64_ef397 | omega) (show (ef398 65).toInt = -1 from by first | exact oz_ae47b2e413 hn65_ef398 | omega) (show (ef 60).toInt ≤ (ef398 60).toInt from by first | exact oz_d01699e821 hn60_ef397 hn60_ef398 | omega) (show (ef398 60).toInt ≤ (ef 60).toInt + w1 from by first | with_reducible rfl | with_reducible assumption | omega) (show CdK ea ea (ef 60).toInt from hcd) (show Kc na mb ma from hkc) (show FrL lo hi ma ma from hfl) (show LpH X9 (ea 61) (ef 60).toInt (ef398 60).toInt (ef398 60).toInt fi [] lvq (ef398 64) from (lpw_0 (by omega) (by omega) (by omega))) hw (lv_sub hl [3, 4, 2, 1, 0] rfl)
    · have nc402 : ¬ z401.toInt < (0 : Int) := mt (i_lt (x := z401) (y := 0)).mpr c402
      refine lv_aload_n S.x S.b d_Mpg_makeLoop_44 rfl (lv_at hl 3 rfl) ?_
      refine lv_aload_n S.x S.b d_Mpg_makeLoop_45 rfl (lv_at hl 3 rfl) ?_
      refine px_get S k_Mpg hT hw 0 0 17 (v := .ref (r 17)) rfl rfl rfl (by decide) m10_1 d_Mpg_makeLoop_46 ?_
      refine lv_iload_n S.x S.b d_Mpg_makeLoop_49 rfl (lv_at hl 4 rfl) ?_
      refine px_iald S hT hw 0 13 (n := 2100) (f := (na 17)) rfl gp_17 (x := p0) (vp_in_iff.mpr (by constructor <;> omega)) d_Mpg_makeLoop_50 ?_
      refine lv_topi (fun z403 ez403 => ?_)
      have lz403 := Int32.le_toInt z403
      have uz403 := Int32.toInt_lt z403
      have hin := hi27 (by omega) (by rw [← ez401]; omega)
      have hsk_z403 : SkB ta (tf 6).toInt na ma0 mb ca V d (pf 13).toInt l1 h1 w1 bh t9 z403 := (by rw [ez403]; exact hin.1); have hrs_z403 := hsk_z403.rng; have hk9_z403 := k29_r (na := na) (n := z403)
      refine px_callv (pr := []) (px_runV (As := [.int z403]) (rest := []) S (hLS ma0 mb ys ns nf l1 h1 w1 V vl vh X9 fi lvq bh t9 h r g tf ta pf na wa cf ca xf xa ma ef398 ea z403 (show 0 ≤ (tf 5).toInt from by first | exact g0 | omega) (show (tf 5).toInt ≤ 2048 from by first | exact g1 | omega) (show (pf 13).toInt ≤ 2100 from by first | exact g2 | omega) (show (tf 6).toInt ≤ 2049 from by first | exact g3 | omega) (show (cf 38).toInt = nf from by first | exact g4 | omega) (show 0 ≤ nf from by first | exact g5 | omega) (show 0 ≤ (ef398 60).toInt from by first | exact oz_e2fef14871 hn60_ef398 hn60_ef397 g6 | omega) (show 0 ≤ fi from by first | exact g7 | omega) (show 1 ≤ X9.tall fi from by first | exact g8 | omega) (show bh ≤ X9.tall fi from by first | exact g9 | omega) (show (ef398 60).toInt + w1 ≤ 7000 + k29 na z403 from by first | with_reducible rfl | with_reducible assumption | omega) htk (FnT.eq hft (by omega)) hfp hab hkc htb hcx hsk_z403 _) hT (pr := []) (pcs := [wdP cs h r g tf ta pf na ma wa cf ca ef398 ea xf xa]) hw (oX_call (P := (fun A U H => (oP A g U H))) (pr := []) oG_P hw hA hP) (px_recv hT hw 0 0 rfl rfl rfl) m13_126 m13_123 m13_125 ms_14_12 m1_21 q_Mpg_makeStatement ⟨show (5 * d + 12) + 1 ≤ (5 * d + 14) from by first | with_reducible rfl | with_reducible assumption | omega, show 8 + (4 + 11) + (200 * d + 500) ≤ (200 * d + 630) from by first | with_reducible rfl | with_reducible assumption | omega⟩ hl.1 rfl (Nat.le_of_ble_eq_true rfl) d_Mpg_makeLoop_51 ⟨Nat.le_of_ble_eq_true rfl, Nat.le_of_ble_eq_true rfl⟩) hw hA (fun p410 H locs hp410 hw => ?_)
      obtain ⟨ma407, ef408, ea409, rfl, e412, e413, e414, e415, e416, e417, e418⟩ := hp410
      replace e412 : (ef398 60).toInt ≤ (ef408 60).toInt := e412
      replace e413 : (ef408 60).toInt ≤ (ef398 60).toInt + w1 := e413
      replace e414 : CdK ea ea409 (ef398 60).toInt := e414
      have hcd := hcd.tr e414 (by omega)
      replace e415 : Kc na mb ma407 := e415
      have hkc := e415
      have han := hab.kc hkc
      have hts := htb.kc hkc
      replace e416 : FrL l1 h1 ma ma407 := e416
      have hfl := hfl.tr e416 (by omega) (by omega)
      replace e417 : StQ X9 (ea409 61) (ef398 60).toInt (ef408 60).toInt fi [] lvq t9 (ef398 64) (ef408 64) (ef398 65) (ef408 65) := e417
      replace e418 : StX na ma407 z403 (ef398 60).toInt (ef408 60).toInt (ef398 64).toInt (ef408 64).toInt (ef398 65).toInt (ef408 65).toInt := e418
      replace hw : pw D A s.heap H locs [wdP cs h r g tf ta pf na ma407 wa cf ca ef408 ea409 xf xa] := hw
      have hx51 := e418.2.2 (by rw [ez403]; exact hin.2)
      exact J54 ma407 ef408 ea409 (ef 64) (ef 65) z399 _ _ ls (show (ef 64).toInt = (ef 64).toInt from rfl) (show (ef 65).toInt = (ef 65).toInt from rfl) (show z399.toInt = (na 14 p0.toNatClampNeg).toInt from by first | exact rz399 | omega) (show (ef408 64).toInt = -1 from by first | with_reducible rfl | with_reducible assumption | omega) (show (ef408 65).toInt = -1 from by first | with_reducible rfl | with_reducible assumption | omega) (show (ef 60).toInt ≤ (ef408 60).toInt from by first | exact oz_75ff98d10e hn60_ef397 e412 hn60_ef398 | omega) (show (ef408 60).toInt ≤ (ef 60).toInt + w1 from by first | exact oz_66d98a8d6f hn60_ef397 e413 hn60_ef398 | omega) (show CdK ea ea409 (ef 60).toInt from hcd) (show Kc na mb ma407 from hkc) (show FrL lo hi ma ma407 from hfl) (show LpH X9 (ea409 61) (ef 60).toInt (ef408 60).toInt (ef408 60).toInt fi [] lvq (ef408 64) from (lph_0 (StQ.tq e417 (by omega) rfl rfl rfl rfl rfl) (by omega) (by omega))) hw (lv_sub hl [3, 4, 2, 1, 0] rfl)
abbrev b_Mpg_makeSwitch : ByteArray := prog_16_method_118_code
def y_Mpg_makeSwitch : MethodName := ⟨"HomeSystemModel$Program", "makeSwitch", "(I)V"⟩
theorem d_Mpg_makeSwitch_0 : decode b_Mpg_makeSwitch 0 = .ok (.aload_n 0, 1) := by decide +kernel
theorem d_Mpg_makeSwitch_1 : decode b_Mpg_makeSwitch 1 = .ok (.getfield 749, 3) := by decide +kernel
theorem d_Mpg_makeSwitch_4 : decode b_Mpg_makeSwitch 4 = .ok (.istore_n 2, 1) := by decide +kernel
theorem d_Mpg_makeSwitch_5 : decode b_Mpg_makeSwitch 5 = .ok (.aload_n 0, 1) := by decide +kernel
theorem d_Mpg_makeSwitch_6 : decode b_Mpg_makeSwitch 6 = .ok (.iconst (-1), 1) := by decide +kernel
theorem d_Mpg_makeSwitch_7 : decode b_Mpg_makeSwitch 7 = .ok (.putfield 749, 3) := by decide +kernel
theorem d_Mpg_makeSwitch_10 : decode b_Mpg_makeSwitch 10 = .ok (.aload_n 0, 1) := by decide +kernel
theorem d_Mpg_makeSwitch_11 : decode b_Mpg_makeSwitch 11 = .ok (.aload_n 0, 1) := by decide +kernel
theorem d_Mpg_makeSwitch_12 : decode b_Mpg_makeSwitch 12 = .ok (.getfield 216, 3) := by decide +kernel
theorem d_Mpg_makeSwitch_15 : decode b_Mpg_makeSwitch 15 = .ok (.iload_n 1, 1) := by decide +kernel
theorem d_Mpg_makeSwitch_16 : decode b_Mpg_makeSwitch 16 = .ok (.iaload, 1) := by decide +kernel
theorem d_Mpg_makeSwitch_17 : decode b_Mpg_makeSwitch 17 = .ok (.invokevirtual 714, 3) := by decide +kernel
theorem d_Mpg_makeSwitch_20 : decode b_Mpg_makeSwitch 20 = .ok (.aload_n 0, 1) := by decide +kernel
theorem d_Mpg_makeSwitch_21 : decode b_Mpg_makeSwitch 21 = .ok (.getfield 708, 3) := by decide +kernel
theorem d_Mpg_makeSwitch_24 : decode b_Mpg_makeSwitch 24 = .ok (.istore_n 3, 1) := by decide +kernel
theorem d_Mpg_makeSwitch_25 : decode b_Mpg_makeSwitch 25 = .ok (.aload_n 0, 1) := by decide +kernel
theorem d_Mpg_makeSwitch_26 : decode b_Mpg_makeSwitch 26 = .ok (.getfield 219, 3) := by decide +kernel
theorem d_Mpg_makeSwitch_29 : decode b_Mpg_makeSwitch 29 = .ok (.iload_n 1, 1) := by decide +kernel
theorem d_Mpg_makeSwitch_30 : decode b_Mpg_makeSwitch 30 = .ok (.iaload, 1) := by decide +kernel
theorem d_Mpg_makeSwitch_31 : decode b_Mpg_makeSwitch 31 = .ok (.istore 4, 2) := by decide +kernel
theorem d_Mpg_makeSwitch_33 : decode b_Mpg_makeSwitch 33 = .ok (.iload 4, 2) := by decide +kernel
theorem d_Mpg_makeSwitch_35 : decode b_Mpg_makeSwitch 35 = .ok (.ifCond .lt 42, 3) := by decide +kernel
theorem d_Mpg_makeSwitch_38 : decode b_Mpg_makeSwitch 38 = .ok (.aload_n 0, 1) := by decide +kernel
theorem d_Mpg_makeSwitch_39 : decode b_Mpg_makeSwitch 39 = .ok (.getfield 207, 3) := by decide +kernel
theorem d_Mpg_makeSwitch_42 : decode b_Mpg_makeSwitch 42 = .ok (.iload 4, 2) := by decide +kernel
theorem d_Mpg_makeSwitch_44 : decode b_Mpg_makeSwitch 44 = .ok (.baload, 1) := by decide +kernel
theorem d_Mpg_makeSwitch_45 : decode b_Mpg_makeSwitch 45 = .ok (.bipush 29, 2) := by decide +kernel
theorem d_Mpg_makeSwitch_47 : decode b_Mpg_makeSwitch 47 = .ok (.if_icmp .ne 18, 3) := by decide +kernel
theorem d_Mpg_makeSwitch_50 : decode b_Mpg_makeSwitch 50 = .ok (.aload_n 0, 1) := by decide +kernel
theorem d_Mpg_makeSwitch_51 : decode b_Mpg_makeSwitch 51 = .ok (.bipush 23, 2) := by decide +kernel
theorem d_Mpg_makeSwitch_53 : decode b_Mpg_makeSwitch 53 = .ok (.iconst 0, 1) := by decide +kernel
theorem d_Mpg_makeSwitch_54 : decode b_Mpg_makeSwitch 54 = .ok (.aload_n 0, 1) := by decide +kernel
theorem d_Mpg_makeSwitch_55 : decode b_Mpg_makeSwitch 55 = .ok (.getfield 219, 3) := by decide +kernel
theorem d_Mpg_makeSwitch_58 : decode b_Mpg_makeSwitch 58 = .ok (.iload 4, 2) := by decide +kernel
theorem d_Mpg_makeSwitch_60 : decode b_Mpg_makeSwitch 60 = .ok (.iaload, 1) := by decide +kernel
theorem d_Mpg_makeSwitch_61 : decode b_Mpg_makeSwitch 61 = .ok (.invokevirtual 711, 3) := by decide +kernel
theorem d_Mpg_makeSwitch_64 : decode b_Mpg_makeSwitch 64 = .ok (.pop, 1) := by decide +kernel
theorem d_Mpg_makeSwitch_65 : decode b_Mpg_makeSwitch 65 = .ok (.aload_n 0, 1) := by decide +kernel
theorem d_Mpg_makeSwitch_66 : decode b_Mpg_makeSwitch 66 = .ok (.getfield 228, 3) := by decide +kernel
theorem d_Mpg_makeSwitch_69 : decode b_Mpg_makeSwitch 69 = .ok (.iload 4, 2) := by decide +kernel
theorem d_Mpg_makeSwitch_71 : decode b_Mpg_makeSwitch 71 = .ok (.iaload, 1) := by decide +kernel
theorem d_Mpg_makeSwitch_72 : decode b_Mpg_makeSwitch 72 = .ok (.istore 4, 2) := by decide +kernel
theorem d_Mpg_makeSwitch_74 : decode b_Mpg_makeSwitch 74 = .ok (.goto (-41), 3) := by decide +kernel
theorem d_Mpg_makeSwitch_77 : decode b_Mpg_makeSwitch 77 = .ok (.aload_n 0, 1) := by decide +kernel
theorem d_Mpg_makeSwitch_78 : decode b_Mpg_makeSwitch 78 = .ok (.bipush 17, 2) := by decide +kernel
theorem d_Mpg_makeSwitch_80 : decode b_Mpg_makeSwitch 80 = .ok (.iconst 0, 1) := by decide +kernel
theorem d_Mpg_makeSwitch_81 : decode b_Mpg_makeSwitch 81 = .ok (.iconst 0, 1) := by decide +kernel
theorem d_Mpg_makeSwitch_82 : decode b_Mpg_makeSwitch 82 = .ok (.invokevirtual 711, 3) := by decide +kernel
theorem d_Mpg_makeSwitch_85 : decode b_Mpg_makeSwitch 85 = .ok (.pop, 1) := by decide +kernel
theorem d_Mpg_makeSwitch_86 : decode b_Mpg_makeSwitch 86 = .ok (.aload_n 0, 1) := by decide +kernel
theorem d_Mpg_makeSwitch_87 : decode b_Mpg_makeSwitch 87 = .ok (.bipush 12, 2) := by decide +kernel
theorem d_Mpg_makeSwitch_89 : decode b_Mpg_makeSwitch 89 = .ok (.iconst 0, 1) := by decide +kernel
theorem d_Mpg_makeSwitch_90 : decode b_Mpg_makeSwitch 90 = .ok (.iconst 0, 1) := by decide +kernel
theorem d_Mpg_makeSwitch_91 : decode b_Mpg_makeSwitch 91 = .ok (.invokevirtual 711, 3) := by decide +kernel
theorem d_Mpg_makeSwitch_94 : decode b_Mpg_makeSwitch 94 = .ok (.istore 4, 2) := by decide +kernel
theorem d_Mpg_makeSwitch_96 : decode b_Mpg_makeSwitch 96 = .ok (.aload_n 0, 1) := by decide +kernel
theorem d_Mpg_makeSwitch_97 : decode b_Mpg_makeSwitch 97 = .ok (.aload_n 0, 1) := by decide +kernel
theorem d_Mpg_makeSwitch_98 : decode b_Mpg_makeSwitch 98 = .ok (.getfield 219, 3) := by decide +kernel
theorem d_Mpg_makeSwitch_101 : decode b_Mpg_makeSwitch 101 = .ok (.iload_n 1, 1) := by decide +kernel
theorem d_Mpg_makeSwitch_102 : decode b_Mpg_makeSwitch 102 = .ok (.iaload, 1) := by decide +kernel
theorem d_Mpg_makeSwitch_103 : decode b_Mpg_makeSwitch 103 = .ok (.invokevirtual 737, 3) := by decide +kernel
theorem d_Mpg_makeSwitch_106 : decode b_Mpg_makeSwitch 106 = .ok (.aload_n 0, 1) := by decide +kernel
theorem d_Mpg_makeSwitch_107 : decode b_Mpg_makeSwitch 107 = .ok (.iload 4, 2) := by decide +kernel
theorem d_Mpg_makeSwitch_109 : decode b_Mpg_makeSwitch 109 = .ok (.invokevirtual 725, 3) := by decide +kernel
theorem d_Mpg_makeSwitch_112 : decode b_Mpg_makeSwitch 112 = .ok (.iload_n 3, 1) := by decide +kernel
theorem d_Mpg_makeSwitch_113 : decode b_Mpg_makeSwitch 113 = .ok (.istore 5, 2) := by decide +kernel
theorem d_Mpg_makeSwitch_115 : decode b_Mpg_makeSwitch 115 = .ok (.aload_n 0, 1) := by decide +kernel
theorem d_Mpg_makeSwitch_116 : decode b_Mpg_makeSwitch 116 = .ok (.getfield 219, 3) := by decide +kernel
theorem d_Mpg_makeSwitch_119 : decode b_Mpg_makeSwitch 119 = .ok (.iload_n 1, 1) := by decide +kernel
theorem d_Mpg_makeSwitch_120 : decode b_Mpg_makeSwitch 120 = .ok (.iaload, 1) := by decide +kernel
theorem d_Mpg_makeSwitch_121 : decode b_Mpg_makeSwitch 121 = .ok (.istore 6, 2) := by decide +kernel
theorem d_Mpg_makeSwitch_123 : decode b_Mpg_makeSwitch 123 = .ok (.iload 6, 2) := by decide +kernel
theorem d_Mpg_makeSwitch_125 : decode b_Mpg_makeSwitch 125 = .ok (.ifCond .lt 81, 3) := by decide +kernel
theorem d_Mpg_makeSwitch_128 : decode b_Mpg_makeSwitch 128 = .ok (.aload_n 0, 1) := by decide +kernel
theorem d_Mpg_makeSwitch_129 : decode b_Mpg_makeSwitch 129 = .ok (.getfield 207, 3) := by decide +kernel
theorem d_Mpg_makeSwitch_132 : decode b_Mpg_makeSwitch 132 = .ok (.iload 6, 2) := by decide +kernel
theorem d_Mpg_makeSwitch_134 : decode b_Mpg_makeSwitch 134 = .ok (.baload, 1) := by decide +kernel
theorem d_Mpg_makeSwitch_135 : decode b_Mpg_makeSwitch 135 = .ok (.bipush 29, 2) := by decide +kernel
theorem d_Mpg_makeSwitch_137 : decode b_Mpg_makeSwitch 137 = .ok (.if_icmp .ne 27, 3) := by decide +kernel
theorem d_Mpg_makeSwitch_140 : decode b_Mpg_makeSwitch 140 = .ok (.aload_n 0, 1) := by decide +kernel
theorem d_Mpg_makeSwitch_141 : decode b_Mpg_makeSwitch 141 = .ok (.getfield 280, 3) := by decide +kernel
theorem d_Mpg_makeSwitch_144 : decode b_Mpg_makeSwitch 144 = .ok (.iconst 3, 1) := by decide +kernel
theorem d_Mpg_makeSwitch_145 : decode b_Mpg_makeSwitch 145 = .ok (.iload 5, 2) := by decide +kernel
theorem d_Mpg_makeSwitch_147 : decode b_Mpg_makeSwitch 147 = .ok (.imul, 1) := by decide +kernel
theorem d_Mpg_makeSwitch_148 : decode b_Mpg_makeSwitch 148 = .ok (.iconst 1, 1) := by decide +kernel
theorem d_Mpg_makeSwitch_149 : decode b_Mpg_makeSwitch 149 = .ok (.iadd, 1) := by decide +kernel
theorem d_Mpg_makeSwitch_150 : decode b_Mpg_makeSwitch 150 = .ok (.aload_n 0, 1) := by decide +kernel
theorem d_Mpg_makeSwitch_151 : decode b_Mpg_makeSwitch 151 = .ok (.getfield 222, 3) := by decide +kernel
theorem d_Mpg_makeSwitch_154 : decode b_Mpg_makeSwitch 154 = .ok (.iload 6, 2) := by decide +kernel
theorem d_Mpg_makeSwitch_156 : decode b_Mpg_makeSwitch 156 = .ok (.iaload, 1) := by decide +kernel
theorem d_Mpg_makeSwitch_157 : decode b_Mpg_makeSwitch 157 = .ok (.iastore, 1) := by decide +kernel
theorem d_Mpg_makeSwitch_158 : decode b_Mpg_makeSwitch 158 = .ok (.iinc 5 1, 3) := by decide +kernel
theorem d_Mpg_makeSwitch_161 : decode b_Mpg_makeSwitch 161 = .ok (.goto 33, 3) := by decide +kernel
theorem d_Mpg_makeSwitch_164 : decode b_Mpg_makeSwitch 164 = .ok (.aload_n 0, 1) := by decide +kernel
theorem d_Mpg_makeSwitch_165 : decode b_Mpg_makeSwitch 165 = .ok (.getfield 207, 3) := by decide +kernel
theorem d_Mpg_makeSwitch_168 : decode b_Mpg_makeSwitch 168 = .ok (.iload 6, 2) := by decide +kernel
theorem d_Mpg_makeSwitch_170 : decode b_Mpg_makeSwitch 170 = .ok (.baload, 1) := by decide +kernel
theorem d_Mpg_makeSwitch_171 : decode b_Mpg_makeSwitch 171 = .ok (.bipush 30, 2) := by decide +kernel
theorem d_Mpg_makeSwitch_173 : decode b_Mpg_makeSwitch 173 = .ok (.if_icmp .ne 21, 3) := by decide +kernel
theorem d_Mpg_makeSwitch_176 : decode b_Mpg_makeSwitch 176 = .ok (.aload_n 0, 1) := by decide +kernel
theorem d_Mpg_makeSwitch_177 : decode b_Mpg_makeSwitch 177 = .ok (.getfield 280, 3) := by decide +kernel
theorem d_Mpg_makeSwitch_180 : decode b_Mpg_makeSwitch 180 = .ok (.iconst 3, 1) := by decide +kernel
theorem d_Mpg_makeSwitch_181 : decode b_Mpg_makeSwitch 181 = .ok (.iload 4, 2) := by decide +kernel
theorem d_Mpg_makeSwitch_183 : decode b_Mpg_makeSwitch 183 = .ok (.imul, 1) := by decide +kernel
theorem d_Mpg_makeSwitch_184 : decode b_Mpg_makeSwitch 184 = .ok (.iconst 1, 1) := by decide +kernel
theorem d_Mpg_makeSwitch_185 : decode b_Mpg_makeSwitch 185 = .ok (.iadd, 1) := by decide +kernel
theorem d_Mpg_makeSwitch_186 : decode b_Mpg_makeSwitch 186 = .ok (.aload_n 0, 1) := by decide +kernel
theorem d_Mpg_makeSwitch_187 : decode b_Mpg_makeSwitch 187 = .ok (.getfield 222, 3) := by decide +kernel
theorem d_Mpg_makeSwitch_190 : decode b_Mpg_makeSwitch 190 = .ok (.iload 6, 2) := by decide +kernel
theorem d_Mpg_makeSwitch_192 : decode b_Mpg_makeSwitch 192 = .ok (.iaload, 1) := by decide +kernel
theorem d_Mpg_makeSwitch_193 : decode b_Mpg_makeSwitch 193 = .ok (.iastore, 1) := by decide +kernel
theorem d_Mpg_makeSwitch_194 : decode b_Mpg_makeSwitch 194 = .ok (.aload_n 0, 1) := by decide +kernel
theorem d_Mpg_makeSwitch_195 : decode b_Mpg_makeSwitch 195 = .ok (.getfield 228, 3) := by decide +kernel
theorem d_Mpg_makeSwitch_198 : decode b_Mpg_makeSwitch 198 = .ok (.iload 6, 2) := by decide +kernel
theorem d_Mpg_makeSwitch_200 : decode b_Mpg_makeSwitch 200 = .ok (.iaload, 1) := by decide +kernel
theorem d_Mpg_makeSwitch_201 : decode b_Mpg_makeSwitch 201 = .ok (.istore 6, 2) := by decide +kernel
theorem d_Mpg_makeSwitch_203 : decode b_Mpg_makeSwitch 203 = .ok (.goto (-80), 3) := by decide +kernel
theorem d_Mpg_makeSwitch_206 : decode b_Mpg_makeSwitch 206 = .ok (.aload_n 0, 1) := by decide +kernel
theorem d_Mpg_makeSwitch_207 : decode b_Mpg_makeSwitch 207 = .ok (.aload_n 0, 1) := by decide +kernel
theorem d_Mpg_makeSwitch_208 : decode b_Mpg_makeSwitch 208 = .ok (.getfield 749, 3) := by decide +kernel
theorem d_Mpg_makeSwitch_211 : decode b_Mpg_makeSwitch 211 = .ok (.aload_n 0, 1) := by decide +kernel
theorem d_Mpg_makeSwitch_212 : decode b_Mpg_makeSwitch 212 = .ok (.getfield 708, 3) := by decide +kernel
theorem d_Mpg_makeSwitch_215 : decode b_Mpg_makeSwitch 215 = .ok (.invokevirtual 722, 3) := by decide +kernel
theorem d_Mpg_makeSwitch_218 : decode b_Mpg_makeSwitch 218 = .ok (.aload_n 0, 1) := by decide +kernel
theorem d_Mpg_makeSwitch_219 : decode b_Mpg_makeSwitch 219 = .ok (.iload_n 2, 1) := by decide +kernel
theorem d_Mpg_makeSwitch_220 : decode b_Mpg_makeSwitch 220 = .ok (.putfield 749, 3) := by decide +kernel
theorem d_Mpg_makeSwitch_223 : decode b_Mpg_makeSwitch 223 = .ok (.return_, 1) := by decide +kernel
theorem q_Mpg_makeSwitch : px_y y_Mpg_makeSwitch 1 := by unfold px_y; decide +kernel
set_option maxHeartbeats 4000000 in
set_option maxRecDepth 100000 in
theorem c_mp_makeSwitch (l : Launch) (D : va_G) (cs : Nat → ClassId) (ma0 : Nat → Nat → Int32) (mb : Nat → Nat → Int32) (ys : Int) (ns : Int) (nf : Int) (d : Nat) (lo : Int) (hi : Int) (wt : Int) (V : Nat → Nat → Prop) (vl : Int) (vh : Int) (X9 : Cx) (fi : Int) (lvq : Nat) (bh : Int) (t9 : Nat) (h : Nat) (r : Nat → Nat) (g : Nat → Nat → Option Nat) (tf : Nat → Int32) (ta : Nat → Nat → Int32) (pf : Nat → Int32) (na : Nat → Nat → Int32) (wa : Nat → Nat → Int32) (cf : Nat → Int32) (ca : Nat → Nat → Int32) (xf : Nat → Int32) (xa : Nat → Nat → Int32) (ma : Nat → Nat → Int32) (ef : Nat → Int32) (ea : Nat → Nat → Int32) (p0 : Int32)  (g0 : 0 ≤ (tf 5).toInt) (g1 : (tf 5).toInt ≤ 2048) (g2 : (pf 13).toInt ≤ 2100) (g3 : (tf 6).toInt ≤ 2049) (g4 : (cf 38).toInt = nf) (g5 : 0 ≤ nf) (g6 : 0 ≤ (ef 60).toInt) (g7 : 0 ≤ fi) (g8 : 1 ≤ X9.tall fi) (g9 : bh ≤ X9.tall fi) (g10 : (ef 60).toInt + wt ≤ 7000) (g11 : (na 14 p0.toNatClampNeg).toInt = 28) (htk : TkI tf ta) (hft : FnT (tf 6).toInt na ca (cf 38).toInt) (hfp : FnP na ca nf) (hab : Ann na ma0 mb) (hkc : Kc na mb ma) (htb : Ts (Gk ta ca na ma0 ns ys nf) na mb vl vh V) (hcx : CxI X9 fi ca ns ys nf (tkl na ma0 ca)) (hsk : SkB ta (tf 6).toInt na ma0 mb ca V (d + 1) (pf 13).toInt lo hi wt bh t9 p0) (hLS : StkC l D cs d) : MetV l y_Mpg_makeSwitch b_Mpg_makeSwitch 7 D cs (5 * d + 14) (200 * d + 630) (0) (0) [.ref h, .int p0] [wdP cs h r g tf ta pf na ma wa cf ca ef ea xf xa] (oX (fun A U H => (oP A g U H)) [wdP cs h r g tf ta pf na ma wa cf ca ef ea xf xa]) (fun ps => ∃ (ma' : Nat → Nat → Int32) (ef' : Nat → Int32) (ea' : Nat → Nat → Int32), (ps = [wdP cs h r g tf ta pf na ma' wa cf ca ef' ea' xf xa]) ∧ ((ef 60).toInt ≤ (ef' 60).toInt) ∧ ((ef' 60).toInt ≤ (ef 60).toInt + wt) ∧ (CdK ea ea' (ef 60).toInt) ∧ (Kc na mb ma') ∧ (FrL lo hi ma ma') ∧ (StQ X9 (ea' 61) (ef 60).toInt (ef' 60).toInt fi [] lvq t9 (ef 64) (ef' 64) (ef 65) (ef' 65))) := by
  refine px_enter (by decide) (Nat.le_of_ble_eq_true rfl) ?_
  intro p e s m below meth c A ls hAe S hr hlk hnm hA hT hX hw hl
  replace hl : lv_has ls 7 [(0, .ref h), (1, .int p0)] := hl
  have lp0 := Int32.le_toInt p0
  have up0 := Int32.toInt_lt p0
  have cstm1 : ((-1) : Int32).toInt = (-1) := rfl
  have cst0 : (0 : Int32).toInt = 0 := rfl
  have cst1 : (1 : Int32).toInt = 1 := rfl
  have cst3 : (3 : Int32).toInt = 3 := rfl
  have cst12 : (12 : Int32).toInt = 12 := rfl
  have cst17 : (17 : Int32).toInt = 17 := rfl
  have cst23 : (23 : Int32).toInt = 23 := rfl
  have cst29 : (29 : Int32).toInt = 29 := rfl
  have cst30 : (30 : Int32).toInt = 30 := rfl
  have hX : (fun A U H => (oP A g U H)) A s s.heap := by rw [hAe]; exact hX
  have hP := hX
  have hZ := hP.1
  have hF0 := hP.2.1
  have hf11 := hft.1
  have han := hab.kc hkc
  have hts := htb.kc hkc
  have hcd : CdK ea ea (ef 60).toInt := CdK.rf
  have hfl : FrL lo hi ma ma := FrL.rf
  have hl0 : (([] : List Nat).length : Int) = 0 := rfl
  have hsk_p0 := hsk
  have hrs0 := hsk.rng
  obtain ⟨m1, wq, wr, r9, ke9, hm1, hmka, hrka, hvs0, hws⟩ := SkB.f28 htb hab hsk (by omega)
  have J123 : ∀ (n_123 : Nat) (ma_123 : Nat → Nat → Int32) (ef_123 : Nat → Int32) (ea_123 : Nat → Nat → Int32) (r_123 : List Int32) (x123_2 x123_3 x123_4 x123_5 x123_6 : Int32) (H : Heap) (locs : List Loc) (ls : Array Slot), (x123_2.toInt = (ef 64).toInt) → ((ef 60).toInt < x123_3.toInt) → (x123_4.toInt = x123_3.toInt + cn29 na r9 + 1) → ((ef_123 60).toInt ≤ (ef 60).toInt + wt) → (CdK ea ea_123 (ef 60).toInt) → (Kc na mb ma_123) → (FrL lo hi ma ma_123) → (VsB na x123_6 r_123 ke9 hi) → (SwI X9 (ea_123 61) (ef 60).toInt x123_3.toInt (x123_4.toInt - 1) x123_5.toInt (ef_123 60).toInt fi [] lvq (if t9 = 4 then 4 else 3) (ef_123 64) (ef 65) (ef_123 65) na ma_123 x123_6) → (r_123.length : Int) < (n_123 : Int) → pw D A s.heap H locs [wdP cs h r g tf ta pf na ma_123 wa cf ca ef_123 ea_123 xf xa] → lv_has ls 7 [(0, .ref h), (1, .int p0), (2, .int x123_2), (3, .int x123_3), (4, .int x123_4), (5, .int x123_5), (6, .int x123_6)] → W p l e { frames := (5 * d + 14), cells := 0, slots := 0, locals := (200 * d + 630) } s m [.ref h, .int p0].toArray below meth c H locs 0 0 (MQ below (va_Qv (fun ps => ∃ (ma' : Nat → Nat → Int32) (ef' : Nat → Int32) (ea' : Nat → Nat → Int32), (ps = [wdP cs h r g tf ta pf na ma' wa cf ca ef' ea' xf xa]) ∧ ((ef 60).toInt ≤ (ef' 60).toInt) ∧ ((ef' 60).toInt ≤ (ef 60).toInt + wt) ∧ (CdK ea ea' (ef 60).toInt) ∧ (Kc na mb ma') ∧ (FrL lo hi ma ma') ∧ (StQ X9 (ea' 61) (ef 60).toInt (ef' 60).toInt fi [] lvq t9 (ef 64) (ef' 64) (ef 65) (ef' 65))) (pc_B D (va_A ([wdP cs h r g tf ta pf na ma wa cf ca ef ea xf xa] : List va_W).flatten s.heap.size)) (va_A ([wdP cs h r g tf ta pf na ma wa cf ca ef ea xf xa] : List va_W).flatten s.heap.size)) [.ref h, .int p0].toArray s 0 0 A) (F0 m 123 ls []) := by
    intro  n_123
    induction n_123 with
    | zero =>
      intro ma_123 ef_123 ea_123 r_123 x123_2 x123_3 x123_4 x123_5 x123_6 H locs ls k123_0 k123_1 k123_2 k123_3 k123_4 k123_5 k123_6 k123_7 k123_8 hm hw hl
      have lx123_2 := Int32.le_toInt x123_2
      have ux123_2 := Int32.toInt_lt x123_2
      have lx123_3 := Int32.le_toInt x123_3
      have ux123_3 := Int32.toInt_lt x123_3
      have lx123_4 := Int32.le_toInt x123_4
      have ux123_4 := Int32.toInt_lt x123_4
      have lx123_5 := Int32.le_toInt x123_5
      have ux123_5 := Int32.toInt_lt x123_5
      have lx123_6 := Int32.le_toInt x123_6
      have ux123_6 := Int32.toInt_lt x123_6
      have hcd := k123_4
      have hkc := k123_5
      have han := hab.kc hkc
      have hts := htb.kc hkc
      have hfl := k123_6
      have hvs := k123_7
      have hsi := k123_8
      exact absurd hm (by omega)
    | succ n_123 ih123 =>
      intro ma_123 ef_123 ea_123 r_123 x123_2 x123_3 x123_4 x123_5 x123_6 H locs ls k123_0 k123_1 k123_2 k123_3 k123_4 k123_5 k123_6 k123_7 k123_8 hm hw hl
      have lx123_2 := Int32.le_toInt x123_2
      have ux123_2 := Int32.toInt_lt x123_2
      have lx123_3 := Int32.le_toInt x123_3
      have ux123_3 := Int32.toInt_lt x123_3
      have lx123_4 := Int32.le_toInt x123_4
      have ux123_4 := Int32.toInt_lt x123_4
      have lx123_5 := Int32.le_toInt x123_5
      have ux123_5 := Int32.toInt_lt x123_5
      have lx123_6 := Int32.le_toInt x123_6
      have ux123_6 := Int32.toInt_lt x123_6
      have hcd := k123_4
      have hkc := k123_5
      have han := hab.kc hkc
      have hts := htb.kc hkc
      have hfl := k123_6
      have hvs := k123_7
      have hsi := k123_8
      refine lv_iload S.x S.b d_Mpg_makeSwitch_123 (lv_at hl 6 rfl) ?_
      refine lv_if_lt (tgt := 206) S.x S.b d_Mpg_makeSwitch_125 (by decide) (fun c1 => ?_) (fun c1 => ?_)
      · have nc1 : x123_6.toInt < (0 : Int) := (i_lt (x := x123_6) (y := 0)).mp c1
        refine lv_aload_n S.x S.b d_Mpg_makeSwitch_206 rfl (lv_at hl 0 rfl) ?_
        refine lv_aload_n S.x S.b d_Mpg_makeSwitch_207 rfl (lv_at hl 0 rfl) ?_
        obtain ⟨hls0, l9, hcn9, hls9, hst9⟩ := hsi.fin (by omega) (by omega); have hdc9 := hls9.1; have hlo9 : ∀ x ∈ l9, (ef 60).toInt ≤ (x : Int) := fun x hx => (by have := hls9.2 x hx; omega)
        refine px_get S k_Mpg hT hw 0 0 64 (v := .int (ef_123 64)) rfl rfl rfl (by decide) m10_64 d_Mpg_makeSwitch_208 ?_
        refine lv_aload_n S.x S.b d_Mpg_makeSwitch_211 rfl (lv_at hl 0 rfl) ?_
        refine px_get S k_Mpg hT hw 0 0 60 (v := .int (ef_123 60)) rfl rfl rfl (by decide) m10_57 d_Mpg_makeSwitch_212 ?_
        refine px_callv (pr := []) (px_runV (As := [.int (ef_123 64), .int (ef_123 60)]) (rest := []) S (c_mp_landAll l D cs ((ef_123 60).toInt).toNat l9 h r g tf ta pf na ma_123 wa cf ca ef_123 xf xa ea_123 (ef_123 64) (ef_123 60)  (show ((ef_123 60).toInt).toNat ≤ 7000 from by first | with_reducible rfl | with_reducible assumption | omega) (chn_k hcn9 (by omega)) (hdc9.up (by omega)) _) hT (pr := []) (pcs := [wdP cs h r g tf ta pf na ma_123 wa cf ca ef_123 ea_123 xf xa]) hw px_X.tt (px_recv hT hw 0 0 rfl rfl rfl) m13_102 m13_99 m13_101 ms_14_6 m1_21 q_Mpg_landAll ⟨show 0 + 1 ≤ (5 * d + 14) from by first | with_reducible rfl | with_reducible assumption | omega, show 8 + (5 + 11) + 0 ≤ (200 * d + 630) from by first | with_reducible rfl | with_reducible assumption | omega⟩ hl.1 rfl (Nat.le_of_ble_eq_true rfl) d_Mpg_makeSwitch_215 ⟨Nat.le_of_ble_eq_true rfl, Nat.le_of_ble_eq_true rfl⟩) hw hA (fun p4 H locs hp4 hw => ?_)
        obtain ⟨ea3, rfl, e6, e7⟩ := hp4
        replace e6 : EaK ea_123 ea3 := e6
        skip
        replace e7 : LaA (ea_123 61) (ea3 61) l9 (ef_123 60) := e7
        have hcd := hcd.tr (EaK.cd e6 e7 hlo9) (Int.le_refl _)
        replace hw : pw D A s.heap H locs [wdP cs h r g tf ta pf na ma_123 wa cf ca ef_123 ea3 xf xa] := hw
        refine lv_aload_n S.x S.b d_Mpg_makeSwitch_218 rfl (lv_at hl 0 rfl) ?_
        refine lv_iload_n S.x S.b d_Mpg_makeSwitch_219 rfl (lv_at hl 2 rfl) ?_
        refine px_put S k_Mpg hT hw 0 0 64 rfl rfl (by decide) m10_64 rfl rfl rfl (Nat.le_of_ble_eq_true rfl) d_Mpg_makeSwitch_220 (w' := wdP cs h r g tf ta pf na ma_123 wa cf ca (upd ef_123 64 x123_2) ea3 xf xa) (ps' := [wdP cs h r g tf ta pf na ma_123 wa cf ca (upd ef_123 64 x123_2) ea3 xf xa]) rfl rfl (fun H locs hw => ?_)
        obtain ⟨ef8, hu_ef8⟩ : ∃ y : Nat → Int32, y = upd ef_123 64 x123_2 := ⟨_, rfl⟩; have hw : pw D A s.heap _ _ [wdP cs h r g tf ta pf na ma_123 wa cf ca ef8 ea3 xf xa] := (by rw [hu_ef8]; exact hw); have hn60_ef8 : (ef8 60).toInt = (ef_123 60).toInt := (by rw [hu_ef8, pk_un (by decide)]); have hn64_ef8 : (ef8 64).toInt = x123_2.toInt := (by rw [hu_ef8, pk_us]); have hn65_ef8 : (ef8 65).toInt = (ef_123 65).toInt := (by rw [hu_ef8, pk_un (by decide)])
        exact px_vret S hr hlk hAe hw (Nat.le_of_ble_eq_true rfl) (Nat.le_of_ble_eq_true rfl) (⟨ma_123, ef8, ea3, rfl, (show (ef 60).toInt ≤ (ef8 60).toInt from by first | with_reducible rfl | with_reducible assumption | omega), (show (ef8 60).toInt ≤ (ef 60).toInt + wt from by first | exact oz_7fe5d62c02 k123_3 hn60_ef8 | omega), (show CdK ea ea3 (ef 60).toInt from hcd), (show Kc na mb ma_123 from hkc), (show FrL lo hi ma ma_123 from hfl), (show StQ X9 (ea3 61) (ef 60).toInt (ef8 60).toInt fi [] lvq t9 (ef 64) (ef8 64) (ef 65) (ef8 65) from ((hst9 _ _ e7 (by omega) t9 (ef 64) (ef 64) rfl (by intro q9; split <;> omega)).tq (by omega) (by omega) (by omega) (by omega) (by omega) (by omega)))⟩) d_Mpg_makeSwitch_223
      · have nc1 : ¬ x123_6.toInt < (0 : Int) := mt (i_lt (x := x123_6) (y := 0)).mpr c1
        refine lv_aload_n S.x S.b d_Mpg_makeSwitch_128 rfl (lv_at hl 0 rfl) ?_
        have hsr := hsi.rng
        obtain ⟨r2, hr2, hrb, hvs2, hcn2, hln2⟩ := hvs.go (by omega); have hc2 := cn29_nn (na := na) (r := r2); have hkr := k29_r (na := na) (n := x123_6)
        refine px_get S k_Mpg hT hw 0 0 14 (v := .ref (r 14)) rfl rfl rfl (by decide) m9_238 d_Mpg_makeSwitch_129 ?_
        refine lv_iload S.x S.b d_Mpg_makeSwitch_132 (lv_at hl 6 rfl) ?_
        refine px_bald S hT hw 0 10 (n := 2100) (f := (na 14)) rfl gp_14 (x := x123_6) (vp_in_iff.mpr (by constructor <;> omega)) d_Mpg_makeSwitch_134 ?_
        refine lv_topi (fun z9 ez9 => ?_)
        have lz9 := Int32.le_toInt z9
        have uz9 := Int32.toInt_lt z9
        have rz9 : z9.toInt = (na 14 x123_6.toNatClampNeg).toInt := by rw [ez9]
        refine lv_bipush (v := 29) S.x S.b d_Mpg_makeSwitch_135 (by decide) ?_
        refine lv_icmp_ne (tgt := 164) S.x S.b d_Mpg_makeSwitch_137 (by decide) (fun c10 => ?_) (fun c10 => ?_)
        · have nc10 : ¬ z9.toInt = (29 : Int) := mt (i_eq (x := z9) (y := 29)).mpr c10
          refine lv_aload_n S.x S.b d_Mpg_makeSwitch_164 rfl (lv_at hl 0 rfl) ?_
          have hk29 : k29 na x123_6 = 0 := if_neg (by omega)
          refine px_get S k_Mpg hT hw 0 0 14 (v := .ref (r 14)) rfl rfl rfl (by decide) m9_238 d_Mpg_makeSwitch_165 ?_
          refine lv_iload S.x S.b d_Mpg_makeSwitch_168 (lv_at hl 6 rfl) ?_
          refine px_bald S hT hw 0 10 (n := 2100) (f := (na 14)) rfl gp_14 (x := x123_6) (vp_in_iff.mpr (by constructor <;> omega)) d_Mpg_makeSwitch_170 ?_
          refine lv_topi (fun z11 ez11 => ?_)
          have lz11 := Int32.le_toInt z11
          have uz11 := Int32.toInt_lt z11
          have rz11 : z11.toInt = (na 14 x123_6.toNatClampNeg).toInt := by rw [ez11]
          refine lv_bipush (v := 30) S.x S.b d_Mpg_makeSwitch_171 (by decide) ?_
          refine lv_icmp_ne (tgt := 194) S.x S.b d_Mpg_makeSwitch_173 (by decide) (fun c12 => ?_) (fun c12 => ?_)
          · have nc12 : ¬ z11.toInt = (30 : Int) := mt (i_eq (x := z11) (y := 30)).mpr c12
            refine lv_aload_n S.x S.b d_Mpg_makeSwitch_194 rfl (lv_at hl 0 rfl) ?_
            refine px_get S k_Mpg hT hw 0 0 21 (v := .ref (r 21)) rfl rfl rfl (by decide) m10_7 d_Mpg_makeSwitch_195 ?_
            refine lv_iload S.x S.b d_Mpg_makeSwitch_198 (lv_at hl 6 rfl) ?_
            refine px_iald S hT hw 0 17 (n := 2100) (f := (na 21)) rfl gp_21 (x := x123_6) (vp_in_iff.mpr (by constructor <;> omega)) d_Mpg_makeSwitch_200 ?_
            refine lv_topi (fun z13 ez13 => ?_)
            have lz13 := Int32.le_toInt z13
            have uz13 := Int32.toInt_lt z13
            refine lv_istore (lv' := [(6, .int z13), (0, .ref h), (1, .int p0), (2, .int x123_2), (3, .int x123_3), (4, .int x123_4), (5, .int x123_5)]) S.x S.b d_Mpg_makeSwitch_201 hl (by decide) rfl (fun ls hl => ?_)
            refine lv_goto (tgt := 123) S.x S.b d_Mpg_makeSwitch_203 (by decide) ?_
            exact ih123 ma_123 ef_123 ea_123 r2 x123_2 x123_3 x123_4 x123_5 z13 _ _ ls (show x123_2.toInt = (ef 64).toInt from by first | exact k123_0 | omega) (show (ef 60).toInt < x123_3.toInt from by first | exact k123_1 | omega) (show x123_4.toInt = x123_3.toInt + cn29 na r9 + 1 from by first | exact k123_2 | omega) (show (ef_123 60).toInt ≤ (ef 60).toInt + wt from by first | exact k123_3 | omega) (show CdK ea ea_123 (ef 60).toInt from hcd) (show Kc na mb ma_123 from hkc) (show FrL lo hi ma ma_123 from hfl) (show VsB na z13 r2 ke9 hi from (by rw [ez13]; exact hvs2)) (show SwI X9 (ea_123 61) (ef 60).toInt x123_3.toInt (x123_4.toInt - 1) x123_5.toInt (ef_123 60).toInt fi [] lvq (if t9 = 4 then 4 else 3) (ef_123 64) (ef 65) (ef_123 65) na ma_123 z13 from ((hsi.sk (by omega) (by omega) ez13).tq (by omega) (by omega) (by omega) (by omega) (by omega) (by omega) (by omega) (by omega) rfl)) (show (r2.length : Int) < (n_123 : Int) from by first | with_reducible rfl | with_reducible assumption | omega) hw (lv_sub hl [1, 2, 3, 4, 5, 6, 0] rfl)
          · have nc12 : z11.toInt = (30 : Int) := (i_eq (x := z11) (y := 30)).mp c12
            refine lv_aload_n S.x S.b d_Mpg_makeSwitch_176 rfl (lv_at hl 0 rfl) ?_
            refine px_get S k_Mpg hT hw 0 0 61 (v := .ref (r 61)) rfl rfl rfl (by decide) m10_58 d_Mpg_makeSwitch_177 ?_
            refine lv_iconst (v := 3) S.x S.b d_Mpg_makeSwitch_180 (by decide) ?_
            refine lv_iload S.x S.b d_Mpg_makeSwitch_181 (lv_at hl 4 rfl) ?_
            refine lv_imul S.x S.b d_Mpg_makeSwitch_183 ?_
            refine lv_topi (fun z14 ez14 => ?_)
            have lz14 := Int32.le_toInt z14
            have uz14 := Int32.toInt_lt z14
            have tz14 : -2147483648 ≤ 3 * x123_4.toInt → 3 * x123_4.toInt < 2147483648 → z14.toInt = 3 * x123_4.toInt := by rw [ez14]; exact i_mulc 3 x123_4 (by decide)
            try replace tz14 : z14.toInt = 3 * x123_4.toInt := by omega
            refine lv_iconst (v := 1) S.x S.b d_Mpg_makeSwitch_184 (by decide) ?_
            refine lv_iadd S.x S.b d_Mpg_makeSwitch_185 ?_
            refine lv_topi (fun z15 ez15 => ?_)
            have tz15 : z15.toInt = (z14.toInt + (1 : Int) + 2147483648) % 4294967296 - 2147483648 := by rw [ez15]; exact i_add z14 1
            have lz15 := Int32.le_toInt z15
            have uz15 := Int32.toInt_lt z15
            try replace tz15 : z15.toInt = z14.toInt + (1 : Int) := by omega
            refine lv_aload_n S.x S.b d_Mpg_makeSwitch_186 rfl (lv_at hl 0 rfl) ?_
            refine px_get S k_Mpg hT hw 0 0 19 (v := .ref (r 19)) rfl rfl rfl (by decide) m10_5 d_Mpg_makeSwitch_187 ?_
            refine lv_iload S.x S.b d_Mpg_makeSwitch_190 (lv_at hl 6 rfl) ?_
            refine px_iald S hT hw 0 15 (n := 2100) (f := (ma_123 19)) rfl gp_19 (x := x123_6) (vp_in_iff.mpr (by constructor <;> omega)) d_Mpg_makeSwitch_192 ?_
            refine lv_topi (fun z16 ez16 => ?_)
            have lz16 := Int32.le_toInt z16
            have uz16 := Int32.toInt_lt z16
            refine px_iast S hT hw 0 34 (n := 21000) (f := (ea_123 61)) (x := z15) (y := z16) rfl gp_61 (vp_in_iff.mpr (by constructor <;> omega)) d_Mpg_makeSwitch_193 (w' := wdP cs h r g tf ta pf na ma_123 wa cf ca ef_123 (va_up ea_123 61 (upd (ea_123 61) z15.toNatClampNeg z16)) xf xa) (ps' := [wdP cs h r g tf ta pf na ma_123 wa cf ca ef_123 (va_up ea_123 61 (upd (ea_123 61) z15.toNatClampNeg z16)) xf xa]) sp_61 rfl (fun H locs hw => ?_)
            obtain ⟨ea17, hu_ea17⟩ : ∃ y : Nat → Nat → Int32, y = va_up ea_123 61 (upd (ea_123 61) z15.toNatClampNeg z16) := ⟨_, rfl⟩; have hw : pw D A s.heap _ _ [wdP cs h r g tf ta pf na ma_123 wa cf ca ef_123 ea17 xf xa] := (by rw [hu_ea17]; exact hw); have hcd := hcd.tr (LaU.cd (lau_mk (s := x123_4) (by omega) (by omega) hu_ea17) (s := (ef 60).toInt) (by omega)) (Int.le_refl _)
            refine lv_aload_n S.x S.b d_Mpg_makeSwitch_194 rfl (lv_at hl 0 rfl) ?_
            refine px_get S k_Mpg hT hw 0 0 21 (v := .ref (r 21)) rfl rfl rfl (by decide) m10_7 d_Mpg_makeSwitch_195 ?_
            refine lv_iload S.x S.b d_Mpg_makeSwitch_198 (lv_at hl 6 rfl) ?_
            refine px_iald S hT hw 0 17 (n := 2100) (f := (na 21)) rfl gp_21 (x := x123_6) (vp_in_iff.mpr (by constructor <;> omega)) d_Mpg_makeSwitch_200 ?_
            refine lv_topi (fun z18 ez18 => ?_)
            have lz18 := Int32.le_toInt z18
            have uz18 := Int32.toInt_lt z18
            refine lv_istore (lv' := [(6, .int z18), (0, .ref h), (1, .int p0), (2, .int x123_2), (3, .int x123_3), (4, .int x123_4), (5, .int x123_5)]) S.x S.b d_Mpg_makeSwitch_201 hl (by decide) rfl (fun ls hl => ?_)
            refine lv_goto (tgt := 123) S.x S.b d_Mpg_makeSwitch_203 (by decide) ?_
            exact ih123 ma_123 ef_123 ea17 r2 x123_2 x123_3 x123_4 x123_5 z18 _ _ ls (show x123_2.toInt = (ef 64).toInt from by first | exact k123_0 | omega) (show (ef 60).toInt < x123_3.toInt from by first | exact k123_1 | omega) (show x123_4.toInt = x123_3.toInt + cn29 na r9 + 1 from by first | exact k123_2 | omega) (show (ef_123 60).toInt ≤ (ef 60).toInt + wt from by first | exact k123_3 | omega) (show CdK ea ea17 (ef 60).toInt from hcd) (show Kc na mb ma_123 from hkc) (show FrL lo hi ma ma_123 from hfl) (show VsB na z18 r2 ke9 hi from (by rw [ez18]; exact hvs2)) (show SwI X9 (ea17 61) (ef 60).toInt x123_3.toInt (x123_4.toInt - 1) x123_5.toInt (ef_123 60).toInt fi [] lvq (if t9 = 4 then 4 else 3) (ef_123 64) (ef 65) (ef_123 65) na ma_123 z18 from ((hsi.df (by omega) (by omega) (lau_mk (s := x123_4) (by omega) (by omega) hu_ea17) (by omega) ez16 ez18).tq (by omega) (by omega) (by omega) (by omega) (by omega) (by omega) (by omega) (by omega) rfl)) (show (r2.length : Int) < (n_123 : Int) from by first | with_reducible rfl | with_reducible assumption | omega) hw (lv_sub hl [1, 2, 3, 4, 5, 6, 0] rfl)
        · have nc10 : z9.toInt = (29 : Int) := (i_eq (x := z9) (y := 29)).mp c10
          refine lv_aload_n S.x S.b d_Mpg_makeSwitch_140 rfl (lv_at hl 0 rfl) ?_
          have hk29 : k29 na x123_6 = 1 := if_pos (by omega)
          have hat := hsi.at (by omega) (by omega)
          refine px_get S k_Mpg hT hw 0 0 61 (v := .ref (r 61)) rfl rfl rfl (by decide) m10_58 d_Mpg_makeSwitch_141 ?_
          refine lv_iconst (v := 3) S.x S.b d_Mpg_makeSwitch_144 (by decide) ?_
          refine lv_iload S.x S.b d_Mpg_makeSwitch_145 (lv_at hl 5 rfl) ?_
          refine lv_imul S.x S.b d_Mpg_makeSwitch_147 ?_
          refine lv_topi (fun z19 ez19 => ?_)
          have lz19 := Int32.le_toInt z19
          have uz19 := Int32.toInt_lt z19
          have tz19 : -2147483648 ≤ 3 * x123_5.toInt → 3 * x123_5.toInt < 2147483648 → z19.toInt = 3 * x123_5.toInt := by rw [ez19]; exact i_mulc 3 x123_5 (by decide)
          try replace tz19 : z19.toInt = 3 * x123_5.toInt := by omega
          refine lv_iconst (v := 1) S.x S.b d_Mpg_makeSwitch_148 (by decide) ?_
          refine lv_iadd S.x S.b d_Mpg_makeSwitch_149 ?_
          refine lv_topi (fun z20 ez20 => ?_)
          have tz20 : z20.toInt = (z19.toInt + (1 : Int) + 2147483648) % 4294967296 - 2147483648 := by rw [ez20]; exact i_add z19 1
          have lz20 := Int32.le_toInt z20
          have uz20 := Int32.toInt_lt z20
          try replace tz20 : z20.toInt = z19.toInt + (1 : Int) := by omega
          refine lv_aload_n S.x S.b d_Mpg_makeSwitch_150 rfl (lv_at hl 0 rfl) ?_
          refine px_get S k_Mpg hT hw 0 0 19 (v := .ref (r 19)) rfl rfl rfl (by decide) m10_5 d_Mpg_makeSwitch_151 ?_
          refine lv_iload S.x S.b d_Mpg_makeSwitch_154 (lv_at hl 6 rfl) ?_
          refine px_iald S hT hw 0 15 (n := 2100) (f := (ma_123 19)) rfl gp_19 (x := x123_6) (vp_in_iff.mpr (by constructor <;> omega)) d_Mpg_makeSwitch_156 ?_
          refine lv_topi (fun z21 ez21 => ?_)
          have lz21 := Int32.le_toInt z21
          have uz21 := Int32.toInt_lt z21
          refine px_iast S hT hw 0 34 (n := 21000) (f := (ea_123 61)) (x := z20) (y := z21) rfl gp_61 (vp_in_iff.mpr (by constructor <;> omega)) d_Mpg_makeSwitch_157 (w' := wdP cs h r g tf ta pf na ma_123 wa cf ca ef_123 (va_up ea_123 61 (upd (ea_123 61) z20.toNatClampNeg z21)) xf xa) (ps' := [wdP cs h r g tf ta pf na ma_123 wa cf ca ef_123 (va_up ea_123 61 (upd (ea_123 61) z20.toNatClampNeg z21)) xf xa]) sp_61 rfl (fun H locs hw => ?_)
          obtain ⟨ea22, hu_ea22⟩ : ∃ y : Nat → Nat → Int32, y = va_up ea_123 61 (upd (ea_123 61) z20.toNatClampNeg z21) := ⟨_, rfl⟩; have hw : pw D A s.heap _ _ [wdP cs h r g tf ta pf na ma_123 wa cf ca ef_123 ea22 xf xa] := (by rw [hu_ea22]; exact hw); have hcd := hcd.tr (LaU.cd (lau_mk (s := x123_5) (by omega) (by omega) hu_ea22) (s := (ef 60).toInt) (by omega)) (Int.le_refl _)
          obtain ⟨z23, ez23⟩ : ∃ y : Int32, y = x123_5 + 1 := ⟨_, rfl⟩
          have tz23 : z23.toInt = (x123_5.toInt + 1 + 2147483648) % 4294967296 - 2147483648 := by rw [ez23]; exact i_add x123_5 1
          have lz23 := Int32.le_toInt z23
          have uz23 := Int32.toInt_lt z23
          try replace tz23 : z23.toInt = x123_5.toInt + 1 := by omega
          refine lv_iinc (v := z23) (lv' := [(5, .int z23), (0, .ref h), (1, .int p0), (2, .int x123_2), (3, .int x123_3), (4, .int x123_4), (6, .int x123_6)]) S.x S.b d_Mpg_makeSwitch_158 hl (k := 5) rfl (by rw [ez23]; rfl) (by decide) rfl (fun ls hl => ?_)
          refine lv_goto (tgt := 194) S.x S.b d_Mpg_makeSwitch_161 (by decide) ?_
          refine lv_aload_n S.x S.b d_Mpg_makeSwitch_194 rfl (lv_at hl 1 rfl) ?_
          refine px_get S k_Mpg hT hw 0 0 21 (v := .ref (r 21)) rfl rfl rfl (by decide) m10_7 d_Mpg_makeSwitch_195 ?_
          refine lv_iload S.x S.b d_Mpg_makeSwitch_198 (lv_at hl 6 rfl) ?_
          refine px_iald S hT hw 0 17 (n := 2100) (f := (na 21)) rfl gp_21 (x := x123_6) (vp_in_iff.mpr (by constructor <;> omega)) d_Mpg_makeSwitch_200 ?_
          refine lv_topi (fun z24 ez24 => ?_)
          have lz24 := Int32.le_toInt z24
          have uz24 := Int32.toInt_lt z24
          refine lv_istore (lv' := [(6, .int z24), (5, .int z23), (0, .ref h), (1, .int p0), (2, .int x123_2), (3, .int x123_3), (4, .int x123_4)]) S.x S.b d_Mpg_makeSwitch_201 hl (by decide) rfl (fun ls hl => ?_)
          refine lv_goto (tgt := 123) S.x S.b d_Mpg_makeSwitch_203 (by decide) ?_
          exact ih123 ma_123 ef_123 ea22 r2 x123_2 x123_3 x123_4 z23 z24 _ _ ls (show x123_2.toInt = (ef 64).toInt from by first | exact k123_0 | omega) (show (ef 60).toInt < x123_3.toInt from by first | exact k123_1 | omega) (show x123_4.toInt = x123_3.toInt + cn29 na r9 + 1 from by first | exact k123_2 | omega) (show (ef_123 60).toInt ≤ (ef 60).toInt + wt from by first | exact k123_3 | omega) (show CdK ea ea22 (ef 60).toInt from hcd) (show Kc na mb ma_123 from hkc) (show FrL lo hi ma ma_123 from hfl) (show VsB na z24 r2 ke9 hi from (by rw [ez24]; exact hvs2)) (show SwI X9 (ea22 61) (ef 60).toInt x123_3.toInt (x123_4.toInt - 1) z23.toInt (ef_123 60).toInt fi [] lvq (if t9 = 4 then 4 else 3) (ef_123 64) (ef 65) (ef_123 65) na ma_123 z24 from ((hsi.cs (by omega) (by omega) (lau_mk (s := x123_5) (by omega) (by omega) hu_ea22) rfl rfl ez21 ez24).tq (by omega) (by omega) (by omega) (by omega) (by omega) (by omega) (by omega) (by omega) rfl)) (show (r2.length : Int) < (n_123 : Int) from by first | with_reducible rfl | with_reducible assumption | omega) hw (lv_sub hl [2, 3, 4, 5, 6, 1, 0] rfl)
  have J33 : ∀ (n_33 : Nat) (ma_33 : Nat → Nat → Int32) (ef_33 : Nat → Int32) (ea_33 : Nat → Nat → Int32) (r_33 : List Int32) (x33_2 x33_3 x33_4 : Int32) (H : Heap) (locs : List Loc) (ls : Array Slot), (x33_2.toInt = (ef 64).toInt) → ((ef_33 64).toInt = -1) → ((ef_33 65).toInt = (ef 65).toInt) → ((ef 60).toInt < x33_3.toInt) → (x33_3.toInt ≤ (ef 60).toInt + wq) → ((ef_33 60).toInt + cn29 na r_33 = x33_3.toInt + cn29 na r9) → (x33_3.toInt ≤ (ef_33 60).toInt) → (CdK ea ea_33 (ef 60).toInt) → (Kc na mb ma_33) → (FrL lo hi ma ma_33) → (VsB na x33_4 r_33 ke9 hi) → (SwH X9 (ea_33 61) (ef 60).toInt x33_3.toInt (ef_33 60).toInt fi [] lvq) → (r_33.length : Int) < (n_33 : Int) → pw D A s.heap H locs [wdP cs h r g tf ta pf na ma_33 wa cf ca ef_33 ea_33 xf xa] → lv_has ls 7 [(0, .ref h), (1, .int p0), (2, .int x33_2), (3, .int x33_3), (4, .int x33_4)] → W p l e { frames := (5 * d + 14), cells := 0, slots := 0, locals := (200 * d + 630) } s m [.ref h, .int p0].toArray below meth c H locs 0 0 (MQ below (va_Qv (fun ps => ∃ (ma' : Nat → Nat → Int32) (ef' : Nat → Int32) (ea' : Nat → Nat → Int32), (ps = [wdP cs h r g tf ta pf na ma' wa cf ca ef' ea' xf xa]) ∧ ((ef 60).toInt ≤ (ef' 60).toInt) ∧ ((ef' 60).toInt ≤ (ef 60).toInt + wt) ∧ (CdK ea ea' (ef 60).toInt) ∧ (Kc na mb ma') ∧ (FrL lo hi ma ma') ∧ (StQ X9 (ea' 61) (ef 60).toInt (ef' 60).toInt fi [] lvq t9 (ef 64) (ef' 64) (ef 65) (ef' 65))) (pc_B D (va_A ([wdP cs h r g tf ta pf na ma wa cf ca ef ea xf xa] : List va_W).flatten s.heap.size)) (va_A ([wdP cs h r g tf ta pf na ma wa cf ca ef ea xf xa] : List va_W).flatten s.heap.size)) [.ref h, .int p0].toArray s 0 0 A) (F0 m 33 ls []) := by
    intro  n_33
    induction n_33 with
    | zero =>
      intro ma_33 ef_33 ea_33 r_33 x33_2 x33_3 x33_4 H locs ls k33_0 k33_1 k33_2 k33_3 k33_4 k33_5 k33_6 k33_7 k33_8 k33_9 k33_10 k33_11 hm hw hl
      have lx33_2 := Int32.le_toInt x33_2
      have ux33_2 := Int32.toInt_lt x33_2
      have lx33_3 := Int32.le_toInt x33_3
      have ux33_3 := Int32.toInt_lt x33_3
      have lx33_4 := Int32.le_toInt x33_4
      have ux33_4 := Int32.toInt_lt x33_4
      have hcd := k33_7
      have hkc := k33_8
      have han := hab.kc hkc
      have hts := htb.kc hkc
      have hfl := k33_9
      have hvs := k33_10
      have hsw := k33_11
      exact absurd hm (by omega)
    | succ n_33 ih33 =>
      intro ma_33 ef_33 ea_33 r_33 x33_2 x33_3 x33_4 H locs ls k33_0 k33_1 k33_2 k33_3 k33_4 k33_5 k33_6 k33_7 k33_8 k33_9 k33_10 k33_11 hm hw hl
      have lx33_2 := Int32.le_toInt x33_2
      have ux33_2 := Int32.toInt_lt x33_2
      have lx33_3 := Int32.le_toInt x33_3
      have ux33_3 := Int32.toInt_lt x33_3
      have lx33_4 := Int32.le_toInt x33_4
      have ux33_4 := Int32.toInt_lt x33_4
      have hcd := k33_7
      have hkc := k33_8
      have han := hab.kc hkc
      have hts := htb.kc hkc
      have hfl := k33_9
      have hvs := k33_10
      have hsw := k33_11
      refine lv_iload S.x S.b d_Mpg_makeSwitch_33 (lv_at hl 4 rfl) ?_
      refine lv_if_lt (tgt := 77) S.x S.b d_Mpg_makeSwitch_35 (by decide) (fun c25 => ?_) (fun c25 => ?_)
      · have nc25 : x33_4.toInt < (0 : Int) := (i_lt (x := x33_4) (y := 0)).mp c25
        refine lv_aload_n S.x S.b d_Mpg_makeSwitch_77 rfl (lv_at hl 0 rfl) ?_
        refine lv_bipush (v := 17) S.x S.b d_Mpg_makeSwitch_78 (by decide) ?_
        have hvn := hvs.nil (by omega)
        refine lv_iconst (v := 0) S.x S.b d_Mpg_makeSwitch_80 (by decide) ?_
        refine lv_iconst (v := 0) S.x S.b d_Mpg_makeSwitch_81 (by decide) ?_
        refine px_calli (pr := []) (px_runV (As := [.int 17, .int 0, .int 0]) (rest := []) S (c_mp_emit l D cs h r g tf ta pf na ma_33 wa cf ca xf xa ef_33 ea_33 17 0 0  (show 0 ≤ (ef_33 60).toInt from by first | exact oz_8df2b9da5a k33_6 k33_3 g6 | omega) (show (ef_33 60).toInt < 7000 from by first | with_reducible rfl | with_reducible assumption | omega) _) hT (pr := []) (pcs := [wdP cs h r g tf ta pf na ma_33 wa cf ca ef_33 ea_33 xf xa]) hw px_X.tt (px_recv hT hw 0 0 rfl rfl rfl) m13_86 m13_83 m13_85 ms_14_2 m1_21 q_Mpg_emit ⟨show 0 + 1 ≤ (5 * d + 14) from by first | with_reducible rfl | with_reducible assumption | omega, show 8 + (4 + 11) + 0 ≤ (200 * d + 630) from by first | with_reducible rfl | with_reducible assumption | omega⟩ hl.1 rfl (Nat.le_of_ble_eq_true rfl) d_Mpg_makeSwitch_82 ⟨Nat.le_of_ble_eq_true rfl, Nat.le_of_ble_eq_true rfl⟩) hw hA (fun v31 p30 H locs hp30 hw => ?_)
        obtain ⟨ef28, ea29, rfl, e32, e33, e34, e35, e36⟩ := hp30
        replace e32 : v31.toInt = (ef_33 60).toInt := e32
        replace e33 : (ef28 60).toInt = (ef_33 60).toInt + 1 := e33
        replace e34 : (ef28 64).toInt = (ef_33 64).toInt := e34
        replace e35 : (ef28 65).toInt = (ef_33 65).toInt := e35
        replace e36 : EmU ea_33 ea29 (ef_33 60) (17 : Int32) (0 : Int32) (0 : Int32) := e36
        have hcd := hcd.tr e36.cd (by omega)
        replace hw : pw D A s.heap H locs [wdP cs h r g tf ta pf na ma_33 wa cf ca ef28 ea29 xf xa] := hw
        have lv31 := Int32.le_toInt v31
        have uv31 := Int32.toInt_lt v31
        refine lv_pop S.x S.b d_Mpg_makeSwitch_85 rfl ?_
        refine lv_aload_n S.x S.b d_Mpg_makeSwitch_86 rfl (lv_at hl 0 rfl) ?_
        refine lv_bipush (v := 12) S.x S.b d_Mpg_makeSwitch_87 (by decide) ?_
        refine lv_iconst (v := 0) S.x S.b d_Mpg_makeSwitch_89 (by decide) ?_
        refine lv_iconst (v := 0) S.x S.b d_Mpg_makeSwitch_90 (by decide) ?_
        refine px_calli (pr := []) (px_runV (As := [.int 12, .int 0, .int 0]) (rest := []) S (c_mp_emit l D cs h r g tf ta pf na ma_33 wa cf ca xf xa ef28 ea29 12 0 0  (show 0 ≤ (ef28 60).toInt from by first | exact oz_a17f821d56 e33 k33_6 k33_3 g6 | omega) (show (ef28 60).toInt < 7000 from by first | with_reducible rfl | with_reducible assumption | omega) _) hT (pr := []) (pcs := [wdP cs h r g tf ta pf na ma_33 wa cf ca ef28 ea29 xf xa]) hw px_X.tt (px_recv hT hw 0 0 rfl rfl rfl) m13_86 m13_83 m13_85 ms_14_2 m1_21 q_Mpg_emit ⟨show 0 + 1 ≤ (5 * d + 14) from by first | with_reducible rfl | with_reducible assumption | omega, show 8 + (4 + 11) + 0 ≤ (200 * d + 630) from by first | with_reducible rfl | with_reducible assumption | omega⟩ hl.1 rfl (Nat.le_of_ble_eq_true rfl) d_Mpg_makeSwitch_91 ⟨Nat.le_of_ble_eq_true rfl, Nat.le_of_ble_eq_true rfl⟩) hw hA (fun v42 p41 H locs hp41 hw => ?_)
        obtain ⟨ef39, ea40, rfl, e43, e44, e45, e46, e47⟩ := hp41
        replace e43 : v42.toInt = (ef28 60).toInt := e43
        replace e44 : (ef39 60).toInt = (ef28 60).toInt + 1 := e44
        replace e45 : (ef39 64).toInt = (ef28 64).toInt := e45
        replace e46 : (ef39 65).toInt = (ef28 65).toInt := e46
        replace e47 : EmU ea29 ea40 (ef28 60) (12 : Int32) (0 : Int32) (0 : Int32) := e47
        have hcd := hcd.tr e47.cd (by omega)
        replace hw : pw D A s.heap H locs [wdP cs h r g tf ta pf na ma_33 wa cf ca ef39 ea40 xf xa] := hw
        have lv42 := Int32.le_toInt v42
        have uv42 := Int32.toInt_lt v42
        refine lv_istore (lv' := [(4, .int v42), (0, .ref h), (1, .int p0), (2, .int x33_2), (3, .int x33_3)]) S.x S.b d_Mpg_makeSwitch_94 hl (by decide) rfl (fun ls hl => ?_)
        refine lv_aload_n S.x S.b d_Mpg_makeSwitch_96 rfl (lv_at hl 1 rfl) ?_
        refine lv_aload_n S.x S.b d_Mpg_makeSwitch_97 rfl (lv_at hl 1 rfl) ?_
        refine px_get S k_Mpg hT hw 0 0 18 (v := .ref (r 18)) rfl rfl rfl (by decide) m10_3 d_Mpg_makeSwitch_98 ?_
        refine lv_iload_n S.x S.b d_Mpg_makeSwitch_101 rfl (lv_at hl 2 rfl) ?_
        refine px_iald S hT hw 0 14 (n := 2100) (f := (ma_33 18)) rfl gp_18 (x := p0) (vp_in_iff.mpr (by constructor <;> omega)) d_Mpg_makeSwitch_102 ?_
        refine lv_topi (fun z48 ez48 => ?_)
        have lz48 := Int32.le_toInt z48
        have uz48 := Int32.toInt_lt z48
        have hrk_z48 : RkB ta (tf 6).toInt na ma0 mb ca V d (pf 13).toInt m1 hi wr bh (if t9 = 4 then 4 else 3) z48 := (by rw [ez48, hkc.f (k := 18) (x := p0.toNatClampNeg) (by decide)]; exact hrka); have hrw_z48 := hrk_z48.wp; have hzz_z48 : z48 = mb 18 p0.toNatClampNeg := (by rw [ez48, hkc.f (k := 18) (x := p0.toNatClampNeg) (by decide)])
        refine px_callv (pr := []) (px_runV (As := [.int z48]) (rest := []) S (c_mp_makeRow l D cs ma0 mb ys ns nf d m1 hi wr V vl vh X9 fi lvq bh (if t9 = 4 then 4 else 3) h r g tf ta pf na wa cf ca xf xa ma_33 ef39 ea40 z48  (show 0 ≤ (tf 5).toInt from by first | exact g0 | omega) (show (tf 5).toInt ≤ 2048 from by first | exact g1 | omega) (show (pf 13).toInt ≤ 2100 from by first | exact g2 | omega) (show (tf 6).toInt ≤ 2049 from by first | exact g3 | omega) (show (cf 38).toInt = nf from by first | exact g4 | omega) (show 0 ≤ nf from by first | exact g5 | omega) (show 0 ≤ (ef39 60).toInt from by first | exact oz_acdc36760a e44 e33 k33_6 k33_3 g6 | omega) (show 0 ≤ fi from by first | exact g7 | omega) (show 1 ≤ X9.tall fi from by first | exact g8 | omega) (show bh ≤ X9.tall fi from by first | exact g9 | omega) (show (ef39 60).toInt + wr ≤ 7000 from by first | with_reducible rfl | with_reducible assumption | omega) (show m1 ≤ hi from by first | with_reducible rfl | with_reducible assumption | omega) htk (FnT.eq hft (by omega)) hfp hab hkc htb hcx hrk_z48 hLS _) hT (pr := []) (pcs := [wdP cs h r g tf ta pf na ma_33 wa cf ca ef39 ea40 xf xa]) hw (oX_call (P := (fun A U H => (oP A g U H))) (pr := []) oG_P hw hA hP) (px_recv hT hw 0 0 rfl rfl rfl) m13_122 m13_119 m13_121 ms_14_11 m1_21 q_Mpg_makeRow ⟨show (5 * d + 13) + 1 ≤ (5 * d + 14) from by first | with_reducible rfl | with_reducible assumption | omega, show 8 + (3 + 11) + (200 * d + 560) ≤ (200 * d + 630) from by first | with_reducible rfl | with_reducible assumption | omega⟩ hl.1 rfl (Nat.le_of_ble_eq_true rfl) d_Mpg_makeSwitch_103 ⟨Nat.le_of_ble_eq_true rfl, Nat.le_of_ble_eq_true rfl⟩) hw hA (fun p55 H locs hp55 hw => ?_)
        obtain ⟨ma52, ef53, ea54, rfl, e57, e58, e59, e60, e61, e62⟩ := hp55
        replace e57 : (ef39 60).toInt ≤ (ef53 60).toInt := e57
        replace e58 : (ef53 60).toInt ≤ (ef39 60).toInt + wr := e58
        replace e59 : CdK ea40 ea54 (ef39 60).toInt := e59
        have hcd := hcd.tr e59 (by omega)
        replace e60 : Kc na mb ma52 := e60
        have hkc := e60
        have han := hab.kc hkc
        have hts := htb.kc hkc
        replace e61 : FrL m1 hi ma_33 ma52 := e61
        have hfl := hfl.tr e61 (by omega) (by omega)
        replace e62 : StW X9 (ea54 61) (ef39 60).toInt (ef53 60).toInt fi [] lvq (if t9 = 4 then 4 else 3) (ef39 64) (ef53 64) (ef39 65) (ef53 65) na ma52 hi z48 := e62
        replace hw : pw D A s.heap H locs [wdP cs h r g tf ta pf na ma52 wa cf ca ef53 ea54 xf xa] := hw
        refine lv_aload_n S.x S.b d_Mpg_makeSwitch_106 rfl (lv_at hl 1 rfl) ?_
        refine lv_iload S.x S.b d_Mpg_makeSwitch_107 (lv_at hl 0 rfl) ?_
        refine px_callv (pr := []) (px_runV (As := [.int v42]) (rest := []) S (c_mp_land l D cs h r g tf ta pf na ma52 wa cf ca ef53 xf xa ea54 v42  (show 0 ≤ v42.toInt from by first | exact oz_7c94cc0890 e43 e33 k33_6 k33_3 g6 | omega) (show v42.toInt < 7000 from by first | with_reducible rfl | with_reducible assumption | omega) _) hT (pr := []) (pcs := [wdP cs h r g tf ta pf na ma52 wa cf ca ef53 ea54 xf xa]) hw px_X.tt (px_recv hT hw 0 0 rfl rfl rfl) m13_106 m13_103 m13_105 ms_14_7 m1_21 q_Mpg_land ⟨show 0 + 1 ≤ (5 * d + 14) from by first | with_reducible rfl | with_reducible assumption | omega, show 8 + (2 + 11) + 0 ≤ (200 * d + 630) from by first | with_reducible rfl | with_reducible assumption | omega⟩ hl.1 rfl (Nat.le_of_ble_eq_true rfl) d_Mpg_makeSwitch_109 ⟨Nat.le_of_ble_eq_true rfl, Nat.le_of_ble_eq_true rfl⟩) hw hA (fun p65 H locs hp65 hw => ?_)
        obtain ⟨ea64, rfl, e67⟩ := hp65
        replace e67 : LaU ea54 ea64 v42 (ef53 60) := e67
        have hcd := hcd.tr (LaU.cd e67 (s := (ef 60).toInt) (by omega)) (Int.le_refl _)
        replace hw : pw D A s.heap H locs [wdP cs h r g tf ta pf na ma52 wa cf ca ef53 ea64 xf xa] := hw
        refine lv_iload_n S.x S.b d_Mpg_makeSwitch_112 rfl (lv_at hl 4 rfl) ?_
        refine lv_istore (lv' := [(5, .int x33_3), (4, .int v42), (0, .ref h), (1, .int p0), (2, .int x33_2), (3, .int x33_3)]) S.x S.b d_Mpg_makeSwitch_113 hl (by decide) rfl (fun ls hl => ?_)
        refine lv_aload_n S.x S.b d_Mpg_makeSwitch_115 rfl (lv_at hl 2 rfl) ?_
        refine px_get S k_Mpg hT hw 0 0 18 (v := .ref (r 18)) rfl rfl rfl (by decide) m10_3 d_Mpg_makeSwitch_116 ?_
        refine lv_iload_n S.x S.b d_Mpg_makeSwitch_119 rfl (lv_at hl 3 rfl) ?_
        refine px_iald S hT hw 0 14 (n := 2100) (f := (ma52 18)) rfl gp_18 (x := p0) (vp_in_iff.mpr (by constructor <;> omega)) d_Mpg_makeSwitch_120 ?_
        refine lv_topi (fun z68 ez68 => ?_)
        have lz68 := Int32.le_toInt z68
        have uz68 := Int32.toInt_lt z68
        refine lv_istore (lv' := [(6, .int z68), (5, .int x33_3), (4, .int v42), (0, .ref h), (1, .int p0), (2, .int x33_2), (3, .int x33_3)]) S.x S.b d_Mpg_makeSwitch_121 hl (by decide) rfl (fun ls hl => ?_)
        exact J123 (((r9.length : Int)).toNat + 1) ma52 ef53 ea64 r9 x33_2 x33_3 v42 x33_3 z68 _ _ ls (show x33_2.toInt = (ef 64).toInt from by first | exact k33_0 | omega) (show (ef 60).toInt < x33_3.toInt from by first | exact k33_3 | omega) (show v42.toInt = x33_3.toInt + cn29 na r9 + 1 from by first | with_reducible rfl | with_reducible assumption | omega) (show (ef53 60).toInt ≤ (ef 60).toInt + wt from by first | with_reducible rfl | with_reducible assumption | omega) (show CdK ea ea64 (ef 60).toInt from hcd) (show Kc na mb ma52 from hkc) (show FrL lo hi ma ma52 from hfl) (show VsB na z68 r9 ke9 hi from (by rw [ez68, hkc.f (k := 18) (x := p0.toNatClampNeg) (by decide)]; exact hvs0)) (show SwI X9 (ea64 61) (ef 60).toInt x33_3.toInt (v42.toInt - 1) x33_3.toInt (ef53 60).toInt fi [] lvq (if t9 = 4 then 4 else 3) (ef53 64) (ef 65) (ef53 65) na ma52 z68 from ((swi_0 hsw e36 e47 e59 (show StW _ _ _ _ _ _ _ _ _ _ _ _ _ _ _ (mb 18 p0.toNatClampNeg) from (by have q9 := e62; rw [hzz_z48] at q9; exact q9)) e67 hvs0.1 hvs0.2.1 (by omega) (by omega) (by omega) (by omega) (by omega) (by omega) rfl rfl (by omega)).tq (by omega) (by omega) (by omega) (by omega) (by omega) (by omega) (by omega) (by omega) (by rw [ez68, hkc.f (k := 18) (x := p0.toNatClampNeg) (by decide)]))) (show (r9.length : Int) < (((((r9.length : Int)).toNat + 1 : Nat) : Int) : Int) from by first | exact oz_natlt | omega) hw (lv_sub hl [3, 4, 5, 6, 2, 1, 0] rfl)
      · have nc25 : ¬ x33_4.toInt < (0 : Int) := mt (i_lt (x := x33_4) (y := 0)).mpr c25
        refine lv_aload_n S.x S.b d_Mpg_makeSwitch_38 rfl (lv_at hl 0 rfl) ?_
        obtain ⟨r2, hr2, hrb, hvs2, hcn2, hln2⟩ := hvs.go (by omega); have hc2 := cn29_nn (na := na) (r := r2); have hkr := k29_r (na := na) (n := x33_4)
        refine px_get S k_Mpg hT hw 0 0 14 (v := .ref (r 14)) rfl rfl rfl (by decide) m9_238 d_Mpg_makeSwitch_39 ?_
        refine lv_iload S.x S.b d_Mpg_makeSwitch_42 (lv_at hl 4 rfl) ?_
        refine px_bald S hT hw 0 10 (n := 2100) (f := (na 14)) rfl gp_14 (x := x33_4) (vp_in_iff.mpr (by constructor <;> omega)) d_Mpg_makeSwitch_44 ?_
        refine lv_topi (fun z69 ez69 => ?_)
        have lz69 := Int32.le_toInt z69
        have uz69 := Int32.toInt_lt z69
        have rz69 : z69.toInt = (na 14 x33_4.toNatClampNeg).toInt := by rw [ez69]
        refine lv_bipush (v := 29) S.x S.b d_Mpg_makeSwitch_45 (by decide) ?_
        refine lv_icmp_ne (tgt := 65) S.x S.b d_Mpg_makeSwitch_47 (by decide) (fun c70 => ?_) (fun c70 => ?_)
        · have nc70 : ¬ z69.toInt = (29 : Int) := mt (i_eq (x := z69) (y := 29)).mpr c70
          refine lv_aload_n S.x S.b d_Mpg_makeSwitch_65 rfl (lv_at hl 0 rfl) ?_
          have hk29 : k29 na x33_4 = 0 := if_neg (by omega)
          refine px_get S k_Mpg hT hw 0 0 21 (v := .ref (r 21)) rfl rfl rfl (by decide) m10_7 d_Mpg_makeSwitch_66 ?_
          refine lv_iload S.x S.b d_Mpg_makeSwitch_69 (lv_at hl 4 rfl) ?_
          refine px_iald S hT hw 0 17 (n := 2100) (f := (na 21)) rfl gp_21 (x := x33_4) (vp_in_iff.mpr (by constructor <;> omega)) d_Mpg_makeSwitch_71 ?_
          refine lv_topi (fun z71 ez71 => ?_)
          have lz71 := Int32.le_toInt z71
          have uz71 := Int32.toInt_lt z71
          refine lv_istore (lv' := [(4, .int z71), (0, .ref h), (1, .int p0), (2, .int x33_2), (3, .int x33_3)]) S.x S.b d_Mpg_makeSwitch_72 hl (by decide) rfl (fun ls hl => ?_)
          refine lv_goto (tgt := 33) S.x S.b d_Mpg_makeSwitch_74 (by decide) ?_
          exact ih33 ma_33 ef_33 ea_33 r2 x33_2 x33_3 z71 _ _ ls (show x33_2.toInt = (ef 64).toInt from by first | exact k33_0 | omega) (show (ef_33 64).toInt = -1 from by first | exact k33_1 | omega) (show (ef_33 65).toInt = (ef 65).toInt from by first | exact k33_2 | omega) (show (ef 60).toInt < x33_3.toInt from by first | exact k33_3 | omega) (show x33_3.toInt ≤ (ef 60).toInt + wq from by first | exact k33_4 | omega) (show (ef_33 60).toInt + cn29 na r2 = x33_3.toInt + cn29 na r9 from by first | with_reducible rfl | with_reducible assumption | omega) (show x33_3.toInt ≤ (ef_33 60).toInt from by first | exact k33_6 | omega) (show CdK ea ea_33 (ef 60).toInt from hcd) (show Kc na mb ma_33 from hkc) (show FrL lo hi ma ma_33 from hfl) (show VsB na z71 r2 ke9 hi from (by rw [ez71]; exact hvs2)) (show SwH X9 (ea_33 61) (ef 60).toInt x33_3.toInt (ef_33 60).toInt fi [] lvq from hsw) (show (r2.length : Int) < (n_33 : Int) from by first | with_reducible rfl | with_reducible assumption | omega) hw (lv_sub hl [1, 2, 3, 4, 0] rfl)
        · have nc70 : z69.toInt = (29 : Int) := (i_eq (x := z69) (y := 29)).mp c70
          refine lv_aload_n S.x S.b d_Mpg_makeSwitch_50 rfl (lv_at hl 0 rfl) ?_
          have hk29 : k29 na x33_4 = 1 := if_pos (by omega)
          refine lv_bipush (v := 23) S.x S.b d_Mpg_makeSwitch_51 (by decide) ?_
          refine lv_iconst (v := 0) S.x S.b d_Mpg_makeSwitch_53 (by decide) ?_
          refine lv_aload_n S.x S.b d_Mpg_makeSwitch_54 rfl (lv_at hl 0 rfl) ?_
          refine px_get S k_Mpg hT hw 0 0 18 (v := .ref (r 18)) rfl rfl rfl (by decide) m10_3 d_Mpg_makeSwitch_55 ?_
          refine lv_iload S.x S.b d_Mpg_makeSwitch_58 (lv_at hl 4 rfl) ?_
          refine px_iald S hT hw 0 14 (n := 2100) (f := (ma_33 18)) rfl gp_18 (x := x33_4) (vp_in_iff.mpr (by constructor <;> omega)) d_Mpg_makeSwitch_60 ?_
          refine lv_topi (fun z72 ez72 => ?_)
          have lz72 := Int32.le_toInt z72
          have uz72 := Int32.toInt_lt z72
          refine px_calli (pr := []) (px_runV (As := [.int 23, .int 0, .int z72]) (rest := []) S (c_mp_emit l D cs h r g tf ta pf na ma_33 wa cf ca xf xa ef_33 ea_33 23 0 z72  (show 0 ≤ (ef_33 60).toInt from by first | exact oz_8df2b9da5a k33_6 k33_3 g6 | omega) (show (ef_33 60).toInt < 7000 from by first | with_reducible rfl | with_reducible assumption | omega) _) hT (pr := []) (pcs := [wdP cs h r g tf ta pf na ma_33 wa cf ca ef_33 ea_33 xf xa]) hw px_X.tt (px_recv hT hw 0 0 rfl rfl rfl) m13_86 m13_83 m13_85 ms_14_2 m1_21 q_Mpg_emit ⟨show 0 + 1 ≤ (5 * d + 14) from by first | with_reducible rfl | with_reducible assumption | omega, show 8 + (4 + 11) + 0 ≤ (200 * d + 630) from by first | with_reducible rfl | with_reducible assumption | omega⟩ hl.1 rfl (Nat.le_of_ble_eq_true rfl) d_Mpg_makeSwitch_61 ⟨Nat.le_of_ble_eq_true rfl, Nat.le_of_ble_eq_true rfl⟩) hw hA (fun v78 p77 H locs hp77 hw => ?_)
          obtain ⟨ef75, ea76, rfl, e79, e80, e81, e82, e83⟩ := hp77
          replace e79 : v78.toInt = (ef_33 60).toInt := e79
          replace e80 : (ef75 60).toInt = (ef_33 60).toInt + 1 := e80
          replace e81 : (ef75 64).toInt = (ef_33 64).toInt := e81
          replace e82 : (ef75 65).toInt = (ef_33 65).toInt := e82
          replace e83 : EmU ea_33 ea76 (ef_33 60) (23 : Int32) (0 : Int32) z72 := e83
          have hcd := hcd.tr e83.cd (by omega)
          replace hw : pw D A s.heap H locs [wdP cs h r g tf ta pf na ma_33 wa cf ca ef75 ea76 xf xa] := hw
          have lv78 := Int32.le_toInt v78
          have uv78 := Int32.toInt_lt v78
          refine lv_pop S.x S.b d_Mpg_makeSwitch_64 rfl ?_
          refine lv_aload_n S.x S.b d_Mpg_makeSwitch_65 rfl (lv_at hl 0 rfl) ?_
          refine px_get S k_Mpg hT hw 0 0 21 (v := .ref (r 21)) rfl rfl rfl (by decide) m10_7 d_Mpg_makeSwitch_66 ?_
          refine lv_iload S.x S.b d_Mpg_makeSwitch_69 (lv_at hl 4 rfl) ?_
          refine px_iald S hT hw 0 17 (n := 2100) (f := (na 21)) rfl gp_21 (x := x33_4) (vp_in_iff.mpr (by constructor <;> omega)) d_Mpg_makeSwitch_71 ?_
          refine lv_topi (fun z84 ez84 => ?_)
          have lz84 := Int32.le_toInt z84
          have uz84 := Int32.toInt_lt z84
          refine lv_istore (lv' := [(4, .int z84), (0, .ref h), (1, .int p0), (2, .int x33_2), (3, .int x33_3)]) S.x S.b d_Mpg_makeSwitch_72 hl (by decide) rfl (fun ls hl => ?_)
          refine lv_goto (tgt := 33) S.x S.b d_Mpg_makeSwitch_74 (by decide) ?_
          exact ih33 ma_33 ef75 ea76 r2 x33_2 x33_3 z84 _ _ ls (show x33_2.toInt = (ef 64).toInt from by first | exact k33_0 | omega) (show (ef75 64).toInt = -1 from by first | exact oz_a5717c4bb3 e81 k33_1 | omega) (show (ef75 65).toInt = (ef 65).toInt from by first | exact oz_1687f4cc65 k33_2 e82 | omega) (show (ef 60).toInt < x33_3.toInt from by first | exact k33_3 | omega) (show x33_3.toInt ≤ (ef 60).toInt + wq from by first | exact k33_4 | omega) (show (ef75 60).toInt + cn29 na r2 = x33_3.toInt + cn29 na r9 from by first | with_reducible rfl | with_reducible assumption | omega) (show x33_3.toInt ≤ (ef75 60).toInt from by first | exact oz_887c409de9 k33_6 e80 | omega) (show CdK ea ea76 (ef 60).toInt from hcd) (show Kc na mb ma_33 from hkc) (show FrL lo hi ma ma_33 from hfl) (show VsB na z84 r2 ke9 hi from (by rw [ez84]; exact hvs2)) (show SwH X9 (ea76 61) (ef 60).toInt x33_3.toInt (ef75 60).toInt fi [] lvq from (hsw.em e83 (by omega) rfl (by omega))) (show (r2.length : Int) < (n_33 : Int) from by first | with_reducible rfl | with_reducible assumption | omega) hw (lv_sub hl [1, 2, 3, 4, 0] rfl)
  refine lv_aload_n S.x S.b d_Mpg_makeSwitch_0 rfl (lv_at hl 0 rfl) ?_
  refine px_get S k_Mpg hT hw 0 0 64 (v := .int (ef 64)) rfl rfl rfl (by decide) m10_64 d_Mpg_makeSwitch_1 ?_
  refine lv_istore_n (lv' := [(2, .int (ef 64)), (0, .ref h), (1, .int p0)]) S.x S.b d_Mpg_makeSwitch_4 rfl hl (by decide) rfl (fun ls hl => ?_)
  refine lv_aload_n S.x S.b d_Mpg_makeSwitch_5 rfl (lv_at hl 1 rfl) ?_
  refine lv_iconst (v := (-1)) S.x S.b d_Mpg_makeSwitch_6 (by decide) ?_
  refine px_put S k_Mpg hT hw 0 0 64 rfl rfl (by decide) m10_64 rfl rfl rfl (Nat.le_of_ble_eq_true rfl) d_Mpg_makeSwitch_7 (w' := wdP cs h r g tf ta pf na ma wa cf ca (upd ef 64 (-1)) ea xf xa) (ps' := [wdP cs h r g tf ta pf na ma wa cf ca (upd ef 64 (-1)) ea xf xa]) rfl rfl (fun H locs hw => ?_)
  obtain ⟨ef85, hu_ef85⟩ : ∃ y : Nat → Int32, y = upd ef 64 (-1 : Int32) := ⟨_, rfl⟩; have hw : pw D A s.heap _ _ [wdP cs h r g tf ta pf na ma wa cf ca ef85 ea xf xa] := (by rw [hu_ef85]; exact hw); have hn60_ef85 : (ef85 60).toInt = (ef 60).toInt := (by rw [hu_ef85, pk_un (by decide)]); have hn64_ef85 : (ef85 64).toInt = (-1 : Int) := (by rw [hu_ef85, pk_us]; rfl); have hn65_ef85 : (ef85 65).toInt = (ef 65).toInt := (by rw [hu_ef85, pk_un (by decide)])
  refine lv_aload_n S.x S.b d_Mpg_makeSwitch_10 rfl (lv_at hl 1 rfl) ?_
  refine lv_aload_n S.x S.b d_Mpg_makeSwitch_11 rfl (lv_at hl 1 rfl) ?_
  refine px_get S k_Mpg hT hw 0 0 17 (v := .ref (r 17)) rfl rfl rfl (by decide) m10_1 d_Mpg_makeSwitch_12 ?_
  refine lv_iload_n S.x S.b d_Mpg_makeSwitch_15 rfl (lv_at hl 2 rfl) ?_
  refine px_iald S hT hw 0 13 (n := 2100) (f := (na 17)) rfl gp_17 (x := p0) (vp_in_iff.mpr (by constructor <;> omega)) d_Mpg_makeSwitch_16 ?_
  refine lv_topi (fun z86 ez86 => ?_)
  have lz86 := Int32.le_toInt z86
  have uz86 := Int32.toInt_lt z86
  have hmk_z86 : MkB ta (tf 6).toInt na ma0 ma ca (V1 V) d (pf 13).toInt wq bh z86 := (by rw [ez86]; exact (hmka).kc hkc); have hec_z86 := hmk_z86.ec; have hrg_z86 := EcV.rng hec_z86; have hnn_z86 := hmk_z86.nn
  refine px_callv (pr := []) (px_runV (As := [.int z86]) (rest := []) S (c_S_make l D cs ma0 ys ns nf d wq (V1 V) vl vh X9 fi [] lvq bh h r g tf ta pf na ma wa cf ca xf xa ef85 ea z86  (show (pf 13).toInt ≤ 2100 from by first | exact g2 | omega) (show (tf 6).toInt ≤ 2049 from by first | exact g3 | omega) (show (cf 38).toInt = nf from by first | exact g4 | omega) (show 0 ≤ nf from by first | exact g5 | omega) (show 0 ≤ (ef85 60).toInt from by first | exact oz_f3ebed1ad0 hn60_ef85 g6 | omega) (show (ef85 60).toInt + wq ≤ 7000 from by first | with_reducible rfl | with_reducible assumption | omega) (show ([].length : Int) + bh ≤ X9.tall fi from by first | with_reducible rfl | with_reducible assumption | omega) htk (FnT.eq hft (by omega)) hfp han hts hcx hmk_z86 _) hT (pr := []) (pcs := [wdP cs h r g tf ta pf na ma wa cf ca ef85 ea xf xa]) hw (oX_call (P := (fun A U H => (oP A g U H))) (pr := []) oG_P hw hA hP) (px_recv hT hw 0 0 rfl rfl rfl) m13_90 m13_87 m13_89 ms_14_3 m1_21 q_Mpg_make2 ⟨show (2 * d + 10) + 1 ≤ (5 * d + 14) from by first | with_reducible rfl | with_reducible assumption | omega, show 8 + (8 + 11) + (120 * d + 320) ≤ (200 * d + 630) from by first | with_reducible rfl | with_reducible assumption | omega⟩ hl.1 rfl (Nat.le_of_ble_eq_true rfl) d_Mpg_makeSwitch_17 ⟨Nat.le_of_ble_eq_true rfl, Nat.le_of_ble_eq_true rfl⟩) hw hA (fun p91 H locs hp91 hw => ?_)
  obtain ⟨ef89, ea90, rfl, e93, e94, e95, e96, e97, e98⟩ := hp91
  replace e93 : (ef85 60).toInt ≤ (ef89 60).toInt := e93
  replace e94 : (ef89 60).toInt ≤ (ef85 60).toInt + wq := e94
  replace e95 : (ef89 64).toInt = (ef85 64).toInt := e95
  replace e96 : (ef89 65).toInt = (ef85 65).toInt := e96
  replace e97 : CdK ea ea90 (ef85 60).toInt := e97
  have hcd := hcd.tr e97 (by omega)
  replace e98 : SgQ X9 (ea90 61) (ef85 60).toInt (ef89 60).toInt fi [] (0 :: []) lvq := e98
  replace hw : pw D A s.heap H locs [wdP cs h r g tf ta pf na ma wa cf ca ef89 ea90 xf xa] := hw
  have hne17 := e98.ne.1
  refine lv_aload_n S.x S.b d_Mpg_makeSwitch_20 rfl (lv_at hl 1 rfl) ?_
  refine px_get S k_Mpg hT hw 0 0 60 (v := .int (ef89 60)) rfl rfl rfl (by decide) m10_57 d_Mpg_makeSwitch_21 ?_
  refine lv_istore_n (lv' := [(3, .int (ef89 60)), (2, .int (ef 64)), (0, .ref h), (1, .int p0)]) S.x S.b d_Mpg_makeSwitch_24 rfl hl (by decide) rfl (fun ls hl => ?_)
  refine lv_aload_n S.x S.b d_Mpg_makeSwitch_25 rfl (lv_at hl 2 rfl) ?_
  refine px_get S k_Mpg hT hw 0 0 18 (v := .ref (r 18)) rfl rfl rfl (by decide) m10_3 d_Mpg_makeSwitch_26 ?_
  refine lv_iload_n S.x S.b d_Mpg_makeSwitch_29 rfl (lv_at hl 3 rfl) ?_
  refine px_iald S hT hw 0 14 (n := 2100) (f := (ma 18)) rfl gp_18 (x := p0) (vp_in_iff.mpr (by constructor <;> omega)) d_Mpg_makeSwitch_30 ?_
  refine lv_topi (fun z99 ez99 => ?_)
  have lz99 := Int32.le_toInt z99
  have uz99 := Int32.toInt_lt z99
  refine lv_istore (lv' := [(4, .int z99), (3, .int (ef89 60)), (2, .int (ef 64)), (0, .ref h), (1, .int p0)]) S.x S.b d_Mpg_makeSwitch_31 hl (by decide) rfl (fun ls hl => ?_)
  exact J33 (((r9.length : Int)).toNat + 1) ma ef89 ea90 r9 (ef 64) (ef89 60) z99 _ _ ls (show (ef 64).toInt = (ef 64).toInt from rfl) (show (ef89 64).toInt = -1 from by first | exact oz_acc2a3d5a9 e95 hn64_ef85 | omega) (show (ef89 65).toInt = (ef 65).toInt from by first | exact oz_1687f4cc65 hn65_ef85 e96 | omega) (show (ef 60).toInt < (ef89 60).toInt from by first | with_reducible rfl | with_reducible assumption | omega) (show (ef89 60).toInt ≤ (ef 60).toInt + wq from by first | exact oz_330db2bd56 hn60_ef85 e94 | omega) (show (ef89 60).toInt + cn29 na r9 = (ef89 60).toInt + cn29 na r9 from rfl) (show (ef89 60).toInt ≤ (ef89 60).toInt from by first | exact oz_1cb5f934a5 | omega) (show CdK ea ea90 (ef 60).toInt from hcd) (show Kc na mb ma from hkc) (show FrL lo hi ma ma from hfl) (show VsB na z99 r9 ke9 hi from (by rw [ez99, hkc.f (k := 18) (x := p0.toNatClampNeg) (by decide)]; exact hvs0)) (show SwH X9 (ea90 61) (ef 60).toInt (ef89 60).toInt (ef89 60).toInt fi [] lvq from (swh_0 (SgQ.tq e98 (by omega) rfl rfl) rfl)) (show (r9.length : Int) < (((((r9.length : Int)).toNat + 1 : Nat) : Int) : Int) from by first | exact oz_natlt | omega) hw (lv_sub hl [3, 4, 2, 1, 0] rfl)
