theorem oz_55e24f7d06 {a0 a1 : Int}  : a0 - a0 ≤ a1 - a1 := by omega
theorem oz_6fe2caf3b5 {a0 a1 a2 a3 a4 a5 : Int} (h0 : a0 = a1) (h1 : a1 ≤ a2 + 10) (h2 : a3 = a2 + (1 : Int)) (h3 : a4 ≤ 2049) (h4 : a5 = a3 + 1) (h5 : a5 < a4) : a0 < 2100 := by omega
theorem oz_72d36d3019 {a0 a1 a2 a3 : Int} (h0 : a2 = a0 + (1 : Int)) (h1 : a1 = a3) (h2 : a3 = a2 + 1) : a0 + 1 ≤ a1 := by omega
theorem oz_14c9e34823 {a0 a1 a2 a3 a4 a5 a6 : Int} (h0 : a4 = a3 + (1 : Int)) (h1 : a5 = a1) (h2 : a0 = a5 + 1) (h3 : a2 = a6) (h4 : a6 = a4 + 1) : a0 - a1 ≤ a2 - a3 := by omega
theorem oz_5ed86b5fc2 {a0 a1 a2 a3 : Int} (h0 : a2 = a0) (h1 : a1 = a3 + 1) (h2 : a3 = a2 + (1 : Int)) : a0 + 1 ≤ a1 := by omega
theorem oz_6744965aff {a0 a1 a2 a3 a4 a5 a6 : Int} (h0 : a4 = a1 + 1) (h1 : a5 = a3) (h2 : a2 = a6 + 1) (h3 : a0 = a4) (h4 : a6 = a5 + (1 : Int)) : a0 - a1 ≤ a2 - a3 := by omega
theorem oz_ba7f4a2393 {a0 a1 a2 a3 a4 : Int} (h0 : a0 = a2 + 1) (h1 : a1 = a3 + (1 : Int)) (h2 : a2 ≤ a4 + 10) (h3 : a3 = a4) : a0 ≤ a1 + 20 := by omega
theorem oz_45f6e2d8b9 {a0 a1 a2 a3 : Int} (h0 : a0 = a2 + 1) (h1 : a1 = a3) (h2 : a2 ≤ a3 + 10) : a0 ≤ a1 + 20 := by omega
theorem oz_34a21a1e6d {a0 a1 a2 : Int} (h0 : a1 + 1 ≤ a0) (h1 : a1 = a2) (h2 : 0 ≤ a2) : 0 ≤ a0 := by omega
theorem oz_11de97e0a6 {a0 a1 a2 a3 : Int} (h0 : a2 = a0) (h1 : a1 = a3 + 1) (h2 : a2 + 1 ≤ a3) : a0 + 1 ≤ a1 := by omega
theorem oz_94650840cd {a0 a1 a2 a3 a4 a5 a6 a7 : Int} (h0 : a4 = a1 + 1) (h1 : a5 = a3) (h2 : a2 = a6 + 1) (h3 : a0 = a7) (h4 : a7 - a4 ≤ a6 - a5) : a0 - a1 ≤ a2 - a3 := by omega
theorem oz_4488b10ba0 {a0 a1 a2 : Int} (h0 : a2 = a0 + (1 : Int)) (h1 : a1 = a2) : a0 + 1 ≤ a1 := by omega
theorem oz_9a2a59ed38 {a0 a1 a2 a3 a4 : Int} (h0 : a4 = a3 + (1 : Int)) (h1 : a0 = a1 + 1) (h2 : a2 = a4) : a0 - a1 ≤ a2 - a3 := by omega
theorem m12_122 : Cond.methodLink "HomeSystemModel$Program" 482 ⟨"HomeSystemModel$Program", "conditioned", "(I)I"⟩ ∈ AL := AL_12 (List.mem_of_getElem? (i := 122) rfl) rfl
theorem m12_125 : Cond.code ⟨"HomeSystemModel$Program", "conditioned", "(I)I"⟩ prog_16_method_53_code 3 (Option.some FieldType.int) ∈ AL := AL_12 (List.mem_of_getElem? (i := 125) rfl) rfl
theorem ms_11_0 : Cond.selects "HomeSystemModel$Program" ⟨"HomeSystemModel$Program", "conditioned", "(I)I"⟩ ⟨"HomeSystemModel$Program", "conditioned", "(I)I"⟩ ∈ AL := AL_p (q := (⟨"HomeSystemModel$Program", "conditioned", "(I)I"⟩, 69)) (by unfold lw_privs; exact List.mem_append_right _ (List.mem_append_right _ (List.mem_append_right _ (List.mem_append_right _ (List.mem_append_right _ (List.mem_append_right _ (List.mem_append_right _ (List.mem_append_right _ (List.mem_append_right _ (List.mem_append_right _ (List.mem_append_left _ (List.mem_of_getElem? (i := 0) rfl))))))))))))
theorem m12_124 : Cond.instanceMethod ⟨"HomeSystemModel$Program", "conditioned", "(I)I"⟩ ∈ AL := AL_12 (List.mem_of_getElem? (i := 124) rfl) rfl
theorem m12_134 : Cond.methodLink "HomeSystemModel$Program" 485 ⟨"HomeSystemModel$Program", "doing", "()I"⟩ ∈ AL := AL_12 (List.mem_of_getElem? (i := 134) rfl) rfl
theorem m12_137 : Cond.code ⟨"HomeSystemModel$Program", "doing", "()I"⟩ prog_16_method_54_code 2 (Option.some FieldType.int) ∈ AL := AL_12 (List.mem_of_getElem? (i := 137) rfl) rfl
theorem ms_11_3 : Cond.selects "HomeSystemModel$Program" ⟨"HomeSystemModel$Program", "doing", "()I"⟩ ⟨"HomeSystemModel$Program", "doing", "()I"⟩ ∈ AL := AL_p (q := (⟨"HomeSystemModel$Program", "doing", "()I"⟩, 69)) (by unfold lw_privs; exact List.mem_append_right _ (List.mem_append_right _ (List.mem_append_right _ (List.mem_append_right _ (List.mem_append_right _ (List.mem_append_right _ (List.mem_append_right _ (List.mem_append_right _ (List.mem_append_right _ (List.mem_append_right _ (List.mem_append_left _ (List.mem_of_getElem? (i := 3) rfl))))))))))))
theorem m12_136 : Cond.instanceMethod ⟨"HomeSystemModel$Program", "doing", "()I"⟩ ∈ AL := AL_12 (List.mem_of_getElem? (i := 136) rfl) rfl
theorem m12_138 : Cond.methodLink "HomeSystemModel$Program" 488 ⟨"HomeSystemModel$Program", "forLoop", "()I"⟩ ∈ AL := AL_12 (List.mem_of_getElem? (i := 138) rfl) rfl
theorem m12_141 : Cond.code ⟨"HomeSystemModel$Program", "forLoop", "()I"⟩ prog_16_method_55_code 3 (Option.some FieldType.int) ∈ AL := AL_12 (List.mem_of_getElem? (i := 141) rfl) rfl
theorem ms_11_4 : Cond.selects "HomeSystemModel$Program" ⟨"HomeSystemModel$Program", "forLoop", "()I"⟩ ⟨"HomeSystemModel$Program", "forLoop", "()I"⟩ ∈ AL := AL_p (q := (⟨"HomeSystemModel$Program", "forLoop", "()I"⟩, 69)) (by unfold lw_privs; exact List.mem_append_right _ (List.mem_append_right _ (List.mem_append_right _ (List.mem_append_right _ (List.mem_append_right _ (List.mem_append_right _ (List.mem_append_right _ (List.mem_append_right _ (List.mem_append_right _ (List.mem_append_right _ (List.mem_append_left _ (List.mem_of_getElem? (i := 4) rfl))))))))))))
theorem m12_140 : Cond.instanceMethod ⟨"HomeSystemModel$Program", "forLoop", "()I"⟩ ∈ AL := AL_12 (List.mem_of_getElem? (i := 140) rfl) rfl
theorem m12_142 : Cond.methodLink "HomeSystemModel$Program" 491 ⟨"HomeSystemModel$Program", "switching", "()I"⟩ ∈ AL := AL_12 (List.mem_of_getElem? (i := 142) rfl) rfl
theorem m12_145 : Cond.code ⟨"HomeSystemModel$Program", "switching", "()I"⟩ prog_16_method_56_code 4 (Option.some FieldType.int) ∈ AL := AL_12 (List.mem_of_getElem? (i := 145) rfl) rfl
theorem ms_11_5 : Cond.selects "HomeSystemModel$Program" ⟨"HomeSystemModel$Program", "switching", "()I"⟩ ⟨"HomeSystemModel$Program", "switching", "()I"⟩ ∈ AL := AL_p (q := (⟨"HomeSystemModel$Program", "switching", "()I"⟩, 69)) (by unfold lw_privs; exact List.mem_append_right _ (List.mem_append_right _ (List.mem_append_right _ (List.mem_append_right _ (List.mem_append_right _ (List.mem_append_right _ (List.mem_append_right _ (List.mem_append_right _ (List.mem_append_right _ (List.mem_append_right _ (List.mem_append_left _ (List.mem_of_getElem? (i := 5) rfl))))))))))))
theorem m12_144 : Cond.instanceMethod ⟨"HomeSystemModel$Program", "switching", "()I"⟩ ∈ AL := AL_12 (List.mem_of_getElem? (i := 144) rfl) rfl
theorem m12_118 : Cond.methodLink "HomeSystemModel$Program" 479 ⟨"HomeSystemModel$Program", "byKey", "(I)I"⟩ ∈ AL := AL_12 (List.mem_of_getElem? (i := 118) rfl) rfl
theorem m12_121 : Cond.code ⟨"HomeSystemModel$Program", "byKey", "(I)I"⟩ prog_16_method_52_code 3 (Option.some FieldType.int) ∈ AL := AL_12 (List.mem_of_getElem? (i := 121) rfl) rfl
theorem ms_10_15 : Cond.selects "HomeSystemModel$Program" ⟨"HomeSystemModel$Program", "byKey", "(I)I"⟩ ⟨"HomeSystemModel$Program", "byKey", "(I)I"⟩ ∈ AL := AL_p (q := (⟨"HomeSystemModel$Program", "byKey", "(I)I"⟩, 69)) (by unfold lw_privs; exact List.mem_append_right _ (List.mem_append_right _ (List.mem_append_right _ (List.mem_append_right _ (List.mem_append_right _ (List.mem_append_right _ (List.mem_append_right _ (List.mem_append_right _ (List.mem_append_right _ (List.mem_append_left _ (List.mem_of_getElem? (i := 15) rfl)))))))))))
theorem m12_120 : Cond.instanceMethod ⟨"HomeSystemModel$Program", "byKey", "(I)I"⟩ ∈ AL := AL_12 (List.mem_of_getElem? (i := 120) rfl) rfl
theorem m12_94 : Cond.methodLink "HomeSystemModel$Program" 470 ⟨"HomeSystemModel$Program", "block", "()I"⟩ ∈ AL := AL_12 (List.mem_of_getElem? (i := 94) rfl) rfl
theorem m12_97 : Cond.code ⟨"HomeSystemModel$Program", "block", "()I"⟩ prog_16_method_49_code 4 (Option.some FieldType.int) ∈ AL := AL_12 (List.mem_of_getElem? (i := 97) rfl) rfl
theorem ms_10_9 : Cond.selects "HomeSystemModel$Program" ⟨"HomeSystemModel$Program", "block", "()I"⟩ ⟨"HomeSystemModel$Program", "block", "()I"⟩ ∈ AL := AL_p (q := (⟨"HomeSystemModel$Program", "block", "()I"⟩, 69)) (by unfold lw_privs; exact List.mem_append_right _ (List.mem_append_right _ (List.mem_append_right _ (List.mem_append_right _ (List.mem_append_right _ (List.mem_append_right _ (List.mem_append_right _ (List.mem_append_right _ (List.mem_append_right _ (List.mem_append_left _ (List.mem_of_getElem? (i := 9) rfl)))))))))))
theorem m12_96 : Cond.instanceMethod ⟨"HomeSystemModel$Program", "block", "()I"⟩ ∈ AL := AL_12 (List.mem_of_getElem? (i := 96) rfl) rfl
abbrev b_Mpg_byKey : ByteArray := prog_16_method_52_code
def y_Mpg_byKey : MethodName := ⟨"HomeSystemModel$Program", "byKey", "(I)I"⟩
theorem d_Mpg_byKey_0 : decode b_Mpg_byKey 0 = .ok (.iload_n 1, 1) := by decide +kernel
theorem d_Mpg_byKey_1 : decode b_Mpg_byKey 1 = .ok (.tableswitch 168 4 14 #[59, 168, 59, 65, 70, 75, 168, 168, 80, 80, 120], 59) := by decide +kernel
theorem d_Mpg_byKey_60 : decode b_Mpg_byKey 60 = .ok (.aload_n 0, 1) := by decide +kernel
theorem d_Mpg_byKey_61 : decode b_Mpg_byKey 61 = .ok (.iload_n 1, 1) := by decide +kernel
theorem d_Mpg_byKey_62 : decode b_Mpg_byKey 62 = .ok (.invokevirtual 482, 3) := by decide +kernel
theorem d_Mpg_byKey_65 : decode b_Mpg_byKey 65 = .ok (.ireturn, 1) := by decide +kernel
theorem d_Mpg_byKey_66 : decode b_Mpg_byKey 66 = .ok (.aload_n 0, 1) := by decide +kernel
theorem d_Mpg_byKey_67 : decode b_Mpg_byKey 67 = .ok (.invokevirtual 485, 3) := by decide +kernel
theorem d_Mpg_byKey_70 : decode b_Mpg_byKey 70 = .ok (.ireturn, 1) := by decide +kernel
theorem d_Mpg_byKey_71 : decode b_Mpg_byKey 71 = .ok (.aload_n 0, 1) := by decide +kernel
theorem d_Mpg_byKey_72 : decode b_Mpg_byKey 72 = .ok (.invokevirtual 488, 3) := by decide +kernel
theorem d_Mpg_byKey_75 : decode b_Mpg_byKey 75 = .ok (.ireturn, 1) := by decide +kernel
theorem d_Mpg_byKey_76 : decode b_Mpg_byKey 76 = .ok (.aload_n 0, 1) := by decide +kernel
theorem d_Mpg_byKey_77 : decode b_Mpg_byKey 77 = .ok (.invokevirtual 491, 3) := by decide +kernel
theorem d_Mpg_byKey_80 : decode b_Mpg_byKey 80 = .ok (.ireturn, 1) := by decide +kernel
theorem d_Mpg_byKey_81 : decode b_Mpg_byKey 81 = .ok (.aload_n 0, 1) := by decide +kernel
theorem d_Mpg_byKey_82 : decode b_Mpg_byKey 82 = .ok (.dup, 1) := by decide +kernel
theorem d_Mpg_byKey_83 : decode b_Mpg_byKey 83 = .ok (.getfield 360, 3) := by decide +kernel
theorem d_Mpg_byKey_86 : decode b_Mpg_byKey 86 = .ok (.iconst 1, 1) := by decide +kernel
theorem d_Mpg_byKey_87 : decode b_Mpg_byKey 87 = .ok (.iadd, 1) := by decide +kernel
theorem d_Mpg_byKey_88 : decode b_Mpg_byKey 88 = .ok (.putfield 360, 3) := by decide +kernel
theorem d_Mpg_byKey_91 : decode b_Mpg_byKey 91 = .ok (.aload_n 0, 1) := by decide +kernel
theorem d_Mpg_byKey_92 : decode b_Mpg_byKey 92 = .ok (.ldc 101, 2) := by decide +kernel
theorem d_Mpg_byKey_94 : decode b_Mpg_byKey 94 = .ok (.invokevirtual 386, 3) := by decide +kernel
theorem d_Mpg_byKey_97 : decode b_Mpg_byKey 97 = .ok (.aload_n 0, 1) := by decide +kernel
theorem d_Mpg_byKey_98 : decode b_Mpg_byKey 98 = .ok (.iload_n 1, 1) := by decide +kernel
theorem d_Mpg_byKey_99 : decode b_Mpg_byKey 99 = .ok (.bipush 12, 2) := by decide +kernel
theorem d_Mpg_byKey_101 : decode b_Mpg_byKey 101 = .ok (.if_icmp .ne 8, 3) := by decide +kernel
theorem d_Mpg_byKey_104 : decode b_Mpg_byKey 104 = .ok (.bipush 31, 2) := by decide +kernel
theorem d_Mpg_byKey_106 : decode b_Mpg_byKey 106 = .ok (.goto 5, 3) := by decide +kernel
theorem d_Mpg_byKey_109 : decode b_Mpg_byKey 109 = .ok (.bipush 32, 2) := by decide +kernel
theorem d_Mpg_byKey_111 : decode b_Mpg_byKey 111 = .ok (.aload_n 0, 1) := by decide +kernel
theorem d_Mpg_byKey_112 : decode b_Mpg_byKey 112 = .ok (.getfield 360, 3) := by decide +kernel
theorem d_Mpg_byKey_115 : decode b_Mpg_byKey 115 = .ok (.iconst 2, 1) := by decide +kernel
theorem d_Mpg_byKey_116 : decode b_Mpg_byKey 116 = .ok (.isub, 1) := by decide +kernel
theorem d_Mpg_byKey_117 : decode b_Mpg_byKey 117 = .ok (.invokevirtual 406, 3) := by decide +kernel
theorem d_Mpg_byKey_120 : decode b_Mpg_byKey 120 = .ok (.ireturn, 1) := by decide +kernel
theorem d_Mpg_byKey_121 : decode b_Mpg_byKey 121 = .ok (.aload_n 0, 1) := by decide +kernel
theorem d_Mpg_byKey_122 : decode b_Mpg_byKey 122 = .ok (.bipush 33, 2) := by decide +kernel
theorem d_Mpg_byKey_124 : decode b_Mpg_byKey 124 = .ok (.aload_n 0, 1) := by decide +kernel
theorem d_Mpg_byKey_125 : decode b_Mpg_byKey 125 = .ok (.getfield 360, 3) := by decide +kernel
theorem d_Mpg_byKey_128 : decode b_Mpg_byKey 128 = .ok (.invokevirtual 406, 3) := by decide +kernel
theorem d_Mpg_byKey_131 : decode b_Mpg_byKey 131 = .ok (.istore_n 2, 1) := by decide +kernel
theorem d_Mpg_byKey_132 : decode b_Mpg_byKey 132 = .ok (.aload_n 0, 1) := by decide +kernel
theorem d_Mpg_byKey_133 : decode b_Mpg_byKey 133 = .ok (.dup, 1) := by decide +kernel
theorem d_Mpg_byKey_134 : decode b_Mpg_byKey 134 = .ok (.getfield 360, 3) := by decide +kernel
theorem d_Mpg_byKey_137 : decode b_Mpg_byKey 137 = .ok (.iconst 1, 1) := by decide +kernel
theorem d_Mpg_byKey_138 : decode b_Mpg_byKey 138 = .ok (.iadd, 1) := by decide +kernel
theorem d_Mpg_byKey_139 : decode b_Mpg_byKey 139 = .ok (.putfield 360, 3) := by decide +kernel
theorem d_Mpg_byKey_142 : decode b_Mpg_byKey 142 = .ok (.aload_n 0, 1) := by decide +kernel
theorem d_Mpg_byKey_143 : decode b_Mpg_byKey 143 = .ok (.ldc 101, 2) := by decide +kernel
theorem d_Mpg_byKey_145 : decode b_Mpg_byKey 145 = .ok (.invokevirtual 366, 3) := by decide +kernel
theorem d_Mpg_byKey_148 : decode b_Mpg_byKey 148 = .ok (.ifCond .ne 13, 3) := by decide +kernel
theorem d_Mpg_byKey_151 : decode b_Mpg_byKey 151 = .ok (.aload_n 0, 1) := by decide +kernel
theorem d_Mpg_byKey_152 : decode b_Mpg_byKey 152 = .ok (.getfield 216, 3) := by decide +kernel
theorem d_Mpg_byKey_155 : decode b_Mpg_byKey 155 = .ok (.iload_n 2, 1) := by decide +kernel
theorem d_Mpg_byKey_156 : decode b_Mpg_byKey 156 = .ok (.aload_n 0, 1) := by decide +kernel
theorem d_Mpg_byKey_157 : decode b_Mpg_byKey 157 = .ok (.invokevirtual 403, 3) := by decide +kernel
theorem d_Mpg_byKey_160 : decode b_Mpg_byKey 160 = .ok (.iastore, 1) := by decide +kernel
theorem d_Mpg_byKey_161 : decode b_Mpg_byKey 161 = .ok (.aload_n 0, 1) := by decide +kernel
theorem d_Mpg_byKey_162 : decode b_Mpg_byKey 162 = .ok (.ldc 101, 2) := by decide +kernel
theorem d_Mpg_byKey_164 : decode b_Mpg_byKey 164 = .ok (.invokevirtual 386, 3) := by decide +kernel
theorem d_Mpg_byKey_167 : decode b_Mpg_byKey 167 = .ok (.iload_n 2, 1) := by decide +kernel
theorem d_Mpg_byKey_168 : decode b_Mpg_byKey 168 = .ok (.ireturn, 1) := by decide +kernel
theorem d_Mpg_byKey_169 : decode b_Mpg_byKey 169 = .ok (.aload_n 0, 1) := by decide +kernel
theorem d_Mpg_byKey_170 : decode b_Mpg_byKey 170 = .ok (.iconst 0, 1) := by decide +kernel
theorem d_Mpg_byKey_171 : decode b_Mpg_byKey 171 = .ok (.invokevirtual 373, 3) := by decide +kernel
theorem d_Mpg_byKey_174 : decode b_Mpg_byKey 174 = .ok (.iconst (-1), 1) := by decide +kernel
theorem d_Mpg_byKey_175 : decode b_Mpg_byKey 175 = .ok (.ireturn, 1) := by decide +kernel
theorem q_Mpg_byKey : px_y y_Mpg_byKey 1 := by unfold px_y; decide +kernel
set_option maxHeartbeats 4000000 in
set_option maxRecDepth 100000 in
theorem c_mp_byKey (l : Launch) (D : va_G) (cs : Nat → ClassId) (h : Nat) (r : Nat → Nat) (g : Nat → Nat → Option Nat) (tf : Nat → Int32) (ta : Nat → Nat → Int32) (cf : Nat → Int32) (ca : Nat → Nat → Int32) (ef : Nat → Int32) (ea : Nat → Nat → Int32) (xf : Nat → Int32) (xa : Nat → Nat → Int32) (pf : Nat → Int32) (na : Nat → Nat → Int32) (ma : Nat → Nat → Int32) (wa : Nat → Nat → Int32) (p0 : Int32) (lv : Nat) (g0 : 0 ≤ (pf 11).toInt) (g1 : (pf 11).toInt < (tf 6).toInt) (g2 : (tf 6).toInt ≤ 2049) (g3 : 0 ≤ (pf 12).toInt) (g4 : (pf 12).toInt ≤ 60) (g5 : 0 ≤ (pf 13).toInt) (g6 : (pf 13).toInt ≤ (pf 11).toInt + 10) (g7 : 0 ≤ (pf 26).toInt) (g8 : (pf 26).toInt ≤ (pf 12).toInt) (g9 : 61 ≤ (pf 12).toInt + (lv : Int)) (g10 : lv ≤ 61) (g11 : (pf 11).toInt + 1 < (tf 6).toInt) (hlf : l.flags = pinnedFlags ++ [noTraceFlag]) (htk : TkI tf ta) (hfs : FsI (tf 6).toInt (pf 13).toInt na) (hLT : LvT l D cs lv) : ThI l y_Mpg_byKey b_Mpg_byKey 3 (.int) D cs (8 * lv + 27) (220 * lv + 1240) [.ref h, .int p0] [wdP cs h r g tf ta pf na ma wa cf ca ef ea xf xa] (oX (fun A U H => (oN A U H) ∧ (oP A g U H)) [wdP cs h r g tf ta pf na ma wa cf ca ef ea xf xa]) "java/lang/IllegalArgumentException" (fun v ps => ∃ (pf' : Nat → Int32) (na' : Nat → Nat → Int32) (ma' : Nat → Nat → Int32) (wa' : Nat → Nat → Int32), (ps = [wdP cs h r g tf ta pf' na' ma' wa' cf ca ef ea xf xa]) ∧ ((pf 11).toInt + 1 ≤ (pf' 11).toInt) ∧ ((pf' 11).toInt < (tf 6).toInt) ∧ ((pf 13).toInt + 1 ≤ (pf' 13).toInt) ∧ ((pf' 13).toInt - (pf 13).toInt ≤ (pf' 11).toInt - (pf 11).toInt) ∧ (bp ta (pf 11) + 1 ≤ bp ta (pf' 11)) ∧ ((pf' 12).toInt = (pf 12).toInt) ∧ ((pf' 24).toInt = (pf 24).toInt) ∧ ((pf' 25).toInt = (pf 25).toInt) ∧ ((pf' 26).toInt = (pf 26).toInt) ∧ (FrB (pf 13).toInt na ma na' ma') ∧ (FrW (pf 26).toInt wa wa') ∧ (VlS ta (tf 6).toInt na' ma' v (pf 13).toInt (pf' 13).toInt (3 * (bp ta (pf' 11) - bp ta (pf 11))) (200 - (pf 12).toInt)) ∧ (FsI (tf 6).toInt (pf' 13).toInt na')) (fun ps => ∃ (pf' : Nat → Int32) (na' : Nat → Nat → Int32) (ma' : Nat → Nat → Int32) (wa' : Nat → Nat → Int32), ps = [wdP cs h r g tf ta pf' na' ma' wa' cf ca ef ea xf xa] ∧ 0 ≤ (pf' 11).toInt ∧ (pf' 11).toInt + 1 ≤ (tf 6).toInt) := by
  refine th_enter (by decide) (Nat.le_of_ble_eq_true rfl) ?_
  intro p e s m below meth c A ls hAe S hr hlk hnm hA hT hX hw hl hne hadm
  have hl : lv_has ls 3 [(0, .ref h), (1, .int p0)] := hl
  have lp0 := Int32.le_toInt p0
  have up0 := Int32.toInt_lt p0
  have cstm1 : ((-1) : Int32).toInt = (-1) := rfl
  have cst0 : (0 : Int32).toInt = 0 := rfl
  have cst1 : (1 : Int32).toInt = 1 := rfl
  have cst2 : (2 : Int32).toInt = 2 := rfl
  have cst12 : (12 : Int32).toInt = 12 := rfl
  have cst31 : (31 : Int32).toInt = 31 := rfl
  have cst32 : (32 : Int32).toInt = 32 := rfl
  have cst33 : (33 : Int32).toInt = 33 := rfl
  have hX : (fun A U H => (oN A U H) ∧ (oP A g U H)) A s s.heap := by rw [hAe]; exact hX
  obtain ⟨hN, hP⟩ := hX
  have hZ := hP.1
  have hF0 := hP.2.1
  have hfb : FrB (pf 13).toInt na ma na ma := FrB.rf
  have hfw : FrW (pf 26).toInt wa wa := FrW.rf
  refine lv_iload_n S.x S.b d_Mpg_byKey_0 rfl (lv_at hl 1 rfl) ?_
  refine px_tableK S (dt := 169) [(60, [4, 6]), (169, [5, 10, 11]), (66, [7]), (71, [8]), (76, [9]), (81, [12, 13]), (121, [14])] d_Mpg_byKey_1 (by decide +kernel) (by decide) (by decide +kernel) ?_ ?_
  ·
    refine lv_aload_n S.x S.b d_Mpg_byKey_169 rfl (lv_at hl 0 rfl) ?_
    refine lv_iconst (v := 0) S.x S.b d_Mpg_byKey_170 (by decide) ?_
    refine th_callv (ps0 := [wdP cs h r g tf ta pf na ma wa cf ca ef ea xf xa]) (pr := [wdP cs h r g tf ta pf na ma wa cf ca ef ea xf xa]) (pcs := []) (As := [.int 0]) (rest := []) (c_mp_need l hlf D cs h 0) S hT hw (oX_call (P := (fun A U H => (oN A U H))) (pr := [wdP cs h r g tf ta pf na ma wa cf ca ef ea xf xa]) oG_N hw hA hN) (px_recv hT hw 0 0 rfl rfl rfl) m11_233 m11_230 m11_232 ms_9_0 m1_21 q_Mpg_need ⟨show 6 + 1 ≤ (8 * lv + 27) from by first | with_reducible rfl | with_reducible assumption | omega, show 8 + (2 + 11) + 100 ≤ (220 * lv + 1240) from by first | with_reducible rfl | with_reducible assumption | omega⟩ hl.1 rfl (Nat.le_of_ble_eq_true rfl) d_Mpg_byKey_171 ⟨Nat.le_of_ble_eq_true rfl, Nat.le_of_ble_eq_true rfl⟩ hne hlk hA hAe (fun o t h => Or.inr h) ?_ (fun p1 H locs hp1 hw => ?_)
    · exact fun p1 H1 locs1 hp hw => by subst hp; exact ⟨_, ⟨pf, na, ma, wa, rfl, by first | with_reducible rfl | with_reducible assumption | omega, by first | with_reducible rfl | with_reducible assumption | omega⟩, hw.sub [0] rfl rfl⟩
    obtain ⟨rfl, hndp1⟩ := hp1
    have hndp1 : ¬ (0 : Int) = 0 := hndp1
    have hw : pw D A s.heap H locs [wdP cs h r g tf ta pf na ma wa cf ca ef ea xf xa] := hw
    refine lv_iconst (v := (-1)) S.x S.b d_Mpg_byKey_174 (by decide) ?_
    exact th_iret (v := (-1)) S hr rfl hlk hAe hw (⟨pf, na, ma, wa, rfl, (show (pf 11).toInt + 1 ≤ (pf 11).toInt from by first | with_reducible rfl | with_reducible assumption | omega), (show (pf 11).toInt < (tf 6).toInt from by first | exact g1 | omega), (show (pf 13).toInt + 1 ≤ (pf 13).toInt from by first | with_reducible rfl | with_reducible assumption | omega), (show (pf 13).toInt - (pf 13).toInt ≤ (pf 11).toInt - (pf 11).toInt from by first | exact oz_55e24f7d06 | omega), (show bp ta (pf 11) + 1 ≤ bp ta (pf 11) from by first | with_reducible rfl | with_reducible assumption | omega), (show (pf 12).toInt = (pf 12).toInt from rfl), (show (pf 24).toInt = (pf 24).toInt from rfl), (show (pf 25).toInt = (pf 25).toInt from rfl), (show (pf 26).toInt = (pf 26).toInt from rfl), (show FrB (pf 13).toInt na ma na ma from hfb), (show FrW (pf 26).toInt wa wa from hfw), (show VlS ta (tf 6).toInt na ma (-1 : Int32) (pf 13).toInt (pf 13).toInt (3 * (bp ta (pf 11) - bp ta (pf 11))) (200 - (pf 12).toInt) from (absurd (show (0 : Int) = 0 from rfl) (by first | with_reducible rfl | with_reducible assumption | omega))), (show FsI (tf 6).toInt (pf 13).toInt na from (FsI.le hfs (by first | with_reducible rfl | with_reducible assumption | omega)))⟩) d_Mpg_byKey_175
  · refine List.forall_mem_cons.mpr ⟨fun c3 => ?_, List.forall_mem_cons.mpr ⟨fun c3 => ?_, List.forall_mem_cons.mpr ⟨fun c3 => ?_, List.forall_mem_cons.mpr ⟨fun c3 => ?_, List.forall_mem_cons.mpr ⟨fun c3 => ?_, List.forall_mem_cons.mpr ⟨fun c3 => ?_, List.forall_mem_cons.mpr ⟨fun c3 => ?_, fun _ h => absurd h List.not_mem_nil⟩⟩⟩⟩⟩⟩⟩
    · simp only [List.mem_cons, List.not_mem_nil, or_false] at c3
      refine lv_aload_n S.x S.b d_Mpg_byKey_60 rfl (lv_at hl 0 rfl) ?_
      refine lv_iload_n S.x S.b d_Mpg_byKey_61 rfl (lv_at hl 1 rfl) ?_
      refine th_calli (ps0 := [wdP cs h r g tf ta pf na ma wa cf ca ef ea xf xa]) (pr := []) (pcs := [wdP cs h r g tf ta pf na ma wa cf ca ef ea xf xa]) (As := [.int p0]) (rest := []) (c_mp_conditioned l D cs h r g tf ta cf ca ef ea xf xa pf na ma wa p0 lv (show 0 ≤ (pf 11).toInt from by first | exact g0 | omega) (show (pf 11).toInt < (tf 6).toInt from by first | exact g1 | omega) (show (tf 6).toInt ≤ 2049 from by first | exact g2 | omega) (show 0 ≤ (pf 12).toInt from by first | exact g3 | omega) (show (pf 12).toInt ≤ 60 from by first | exact g4 | omega) (show 0 ≤ (pf 13).toInt from by first | exact g5 | omega) (show (pf 13).toInt ≤ (pf 11).toInt + 10 from by first | exact g6 | omega) (show 0 ≤ (pf 26).toInt from by first | exact g7 | omega) (show (pf 26).toInt ≤ (pf 12).toInt from by first | exact g8 | omega) (show 61 ≤ (pf 12).toInt + (lv : Int) from by first | exact g9 | omega) (show lv ≤ 61 from by first | exact g10 | omega) (show (pf 11).toInt + 1 < (tf 6).toInt from by first | exact g11 | omega) hlf htk (FsI.le (N' := (pf 13).toInt) hfs (by first | with_reducible rfl | with_reducible assumption | omega)) hLT) S hT hw (oX_call (P := (fun A U H => (oN A U H) ∧ (oP A g U H))) (pr := []) (oG_and oG_N oG_P) hw hA ⟨hN, hP⟩) (px_recv hT hw 0 0 rfl rfl rfl) m12_125 m12_122 m12_124 ms_11_0 m1_21 q_Mpg_conditioned ⟨show (8 * lv + 26) + 1 ≤ (8 * lv + 27) from by first | with_reducible rfl | with_reducible assumption | omega, show 8 + (3 + 11) + (220 * lv + 1200) ≤ (220 * lv + 1240) from by first | with_reducible rfl | with_reducible assumption | omega⟩ hl.1 rfl (Nat.le_of_ble_eq_true rfl) d_Mpg_byKey_62 ⟨Nat.le_of_ble_eq_true rfl, Nat.le_of_ble_eq_true rfl⟩ hne hlk hA hAe (fun o t h => Or.inr h) ?_ (fun v13 p12 H locs hp12 hw => ?_)
      · exact fun p1 H1 locs1 hp hw => by obtain ⟨pq1, pq2, pq3, pq4, rfl, hq1, hq2⟩ := hp; exact ⟨_, ⟨pq1, pq2, pq3, pq4, rfl, hq1, hq2⟩, hw⟩
      obtain ⟨pf8, na9, ma10, wa11, rfl, e14, e15, e16, e17, e18, e19, e20, e21, e22, e23, e24, e25, e26⟩ := hp12
      have e14 : (pf 11).toInt + 1 ≤ (pf8 11).toInt := e14
      have e15 : (pf8 11).toInt < (tf 6).toInt := e15
      have e16 : (pf 13).toInt + 1 ≤ (pf8 13).toInt := e16
      have e17 : (pf8 13).toInt - (pf 13).toInt ≤ (pf8 11).toInt - (pf 11).toInt := e17
      have e18 : bp ta (pf 11) + 1 ≤ bp ta (pf8 11) := e18
      have e19 : (pf8 12).toInt = (pf 12).toInt := e19
      have e20 : (pf8 24).toInt = (pf 24).toInt := e20
      have e21 : (pf8 25).toInt = (pf 25).toInt := e21
      have e22 : (pf8 26).toInt = (pf 26).toInt := e22
      have e23 : FrB (pf 13).toInt na ma na9 ma10 := e23
      have hfb := hfb.tr e23 (by first | with_reducible rfl | with_reducible assumption | omega)
      have e24 : FrW (pf 26).toInt wa wa11 := e24
      have hfw := hfw.tr e24 (by first | with_reducible rfl | with_reducible assumption | omega)
      have e25 : VlS ta (tf 6).toInt na9 ma10 v13 (pf 13).toInt (pf8 13).toInt (3 * (bp ta (pf8 11) - bp ta (pf 11))) (200 - (pf 12).toInt) := e25
      have hv_v13 := e25
      have hn_hv_v13 := hv_v13.num fs_ok
      have e26 : FsI (tf 6).toInt (pf8 13).toInt na9 := e26
      have hfs := e26
      have hw : pw D A s.heap H locs [wdP cs h r g tf ta pf8 na9 ma10 wa11 cf ca ef ea xf xa] := hw
      have lv13 := Int32.le_toInt v13
      have uv13 := Int32.toInt_lt v13
      exact th_iret (v := v13) S hr rfl hlk hAe hw (⟨pf8, na9, ma10, wa11, rfl, (show (pf 11).toInt + 1 ≤ (pf8 11).toInt from by first | exact e14 | omega), (show (pf8 11).toInt < (tf 6).toInt from by first | exact e15 | omega), (show (pf 13).toInt + 1 ≤ (pf8 13).toInt from by first | exact e16 | omega), (show (pf8 13).toInt - (pf 13).toInt ≤ (pf8 11).toInt - (pf 11).toInt from by first | exact e17 | omega), (show bp ta (pf 11) + 1 ≤ bp ta (pf8 11) from by first | exact e18 | omega), (show (pf8 12).toInt = (pf 12).toInt from by first | exact e19 | omega), (show (pf8 24).toInt = (pf 24).toInt from by first | exact e20 | omega), (show (pf8 25).toInt = (pf 25).toInt from by first | exact e21 | omega), (show (pf8 26).toInt = (pf 26).toInt from by first | exact e22 | omega), (show FrB (pf 13).toInt na ma na9 ma10 from hfb), (show FrW (pf 26).toInt wa wa11 from hfw), (show VlS ta (tf 6).toInt na9 ma10 v13 (pf 13).toInt (pf8 13).toInt (3 * (bp ta (pf8 11) - bp ta (pf 11))) (200 - (pf 12).toInt) from (VlV.le hv_v13 (by first | with_reducible rfl | with_reducible assumption | omega) (by first | with_reducible rfl | with_reducible assumption | omega) (by first | with_reducible rfl | with_reducible assumption | omega) (by first | with_reducible rfl | with_reducible assumption | omega))), (show FsI (tf 6).toInt (pf8 13).toInt na9 from (FsI.le hfs (by first | with_reducible rfl | with_reducible assumption | omega)))⟩) d_Mpg_byKey_65
    · simp only [List.mem_cons, List.not_mem_nil, or_false] at c3
      refine lv_aload_n S.x S.b d_Mpg_byKey_169 rfl (lv_at hl 0 rfl) ?_
      refine lv_iconst (v := 0) S.x S.b d_Mpg_byKey_170 (by decide) ?_
      refine th_callv (ps0 := [wdP cs h r g tf ta pf na ma wa cf ca ef ea xf xa]) (pr := [wdP cs h r g tf ta pf na ma wa cf ca ef ea xf xa]) (pcs := []) (As := [.int 0]) (rest := []) (c_mp_need l hlf D cs h 0) S hT hw (oX_call (P := (fun A U H => (oN A U H))) (pr := [wdP cs h r g tf ta pf na ma wa cf ca ef ea xf xa]) oG_N hw hA hN) (px_recv hT hw 0 0 rfl rfl rfl) m11_233 m11_230 m11_232 ms_9_0 m1_21 q_Mpg_need ⟨show 6 + 1 ≤ (8 * lv + 27) from by first | with_reducible rfl | with_reducible assumption | omega, show 8 + (2 + 11) + 100 ≤ (220 * lv + 1240) from by first | with_reducible rfl | with_reducible assumption | omega⟩ hl.1 rfl (Nat.le_of_ble_eq_true rfl) d_Mpg_byKey_171 ⟨Nat.le_of_ble_eq_true rfl, Nat.le_of_ble_eq_true rfl⟩ hne hlk hA hAe (fun o t h => Or.inr h) ?_ (fun p27 H locs hp27 hw => ?_)
      · exact fun p1 H1 locs1 hp hw => by subst hp; exact ⟨_, ⟨pf, na, ma, wa, rfl, by first | with_reducible rfl | with_reducible assumption | omega, by first | with_reducible rfl | with_reducible assumption | omega⟩, hw.sub [0] rfl rfl⟩
      obtain ⟨rfl, hndp27⟩ := hp27
      have hndp27 : ¬ (0 : Int) = 0 := hndp27
      have hw : pw D A s.heap H locs [wdP cs h r g tf ta pf na ma wa cf ca ef ea xf xa] := hw
      refine lv_iconst (v := (-1)) S.x S.b d_Mpg_byKey_174 (by decide) ?_
      exact th_iret (v := (-1)) S hr rfl hlk hAe hw (⟨pf, na, ma, wa, rfl, (show (pf 11).toInt + 1 ≤ (pf 11).toInt from by first | with_reducible rfl | with_reducible assumption | omega), (show (pf 11).toInt < (tf 6).toInt from by first | exact g1 | omega), (show (pf 13).toInt + 1 ≤ (pf 13).toInt from by first | with_reducible rfl | with_reducible assumption | omega), (show (pf 13).toInt - (pf 13).toInt ≤ (pf 11).toInt - (pf 11).toInt from by first | exact oz_55e24f7d06 | omega), (show bp ta (pf 11) + 1 ≤ bp ta (pf 11) from by first | with_reducible rfl | with_reducible assumption | omega), (show (pf 12).toInt = (pf 12).toInt from rfl), (show (pf 24).toInt = (pf 24).toInt from rfl), (show (pf 25).toInt = (pf 25).toInt from rfl), (show (pf 26).toInt = (pf 26).toInt from rfl), (show FrB (pf 13).toInt na ma na ma from hfb), (show FrW (pf 26).toInt wa wa from hfw), (show VlS ta (tf 6).toInt na ma (-1 : Int32) (pf 13).toInt (pf 13).toInt (3 * (bp ta (pf 11) - bp ta (pf 11))) (200 - (pf 12).toInt) from (absurd (show (0 : Int) = 0 from rfl) (by first | with_reducible rfl | with_reducible assumption | omega))), (show FsI (tf 6).toInt (pf 13).toInt na from (FsI.le hfs (by first | with_reducible rfl | with_reducible assumption | omega)))⟩) d_Mpg_byKey_175
    · simp only [List.mem_cons, List.not_mem_nil, or_false] at c3
      refine lv_aload_n S.x S.b d_Mpg_byKey_66 rfl (lv_at hl 0 rfl) ?_
      refine th_calli (ps0 := [wdP cs h r g tf ta pf na ma wa cf ca ef ea xf xa]) (pr := []) (pcs := [wdP cs h r g tf ta pf na ma wa cf ca ef ea xf xa]) (As := []) (rest := []) (c_mp_doing l D cs h r g tf ta cf ca ef ea xf xa pf na ma wa  lv (show 0 ≤ (pf 11).toInt from by first | exact g0 | omega) (show (pf 11).toInt < (tf 6).toInt from by first | exact g1 | omega) (show (tf 6).toInt ≤ 2049 from by first | exact g2 | omega) (show 0 ≤ (pf 12).toInt from by first | exact g3 | omega) (show (pf 12).toInt ≤ 60 from by first | exact g4 | omega) (show 0 ≤ (pf 13).toInt from by first | exact g5 | omega) (show (pf 13).toInt ≤ (pf 11).toInt + 10 from by first | exact g6 | omega) (show 0 ≤ (pf 26).toInt from by first | exact g7 | omega) (show (pf 26).toInt ≤ (pf 12).toInt from by first | exact g8 | omega) (show 61 ≤ (pf 12).toInt + (lv : Int) from by first | exact g9 | omega) (show lv ≤ 61 from by first | exact g10 | omega) (show (pf 11).toInt + 1 < (tf 6).toInt from by first | exact g11 | omega) hlf htk (FsI.le (N' := (pf 13).toInt) hfs (by first | with_reducible rfl | with_reducible assumption | omega)) hLT) S hT hw (oX_call (P := (fun A U H => (oN A U H) ∧ (oP A g U H))) (pr := []) (oG_and oG_N oG_P) hw hA ⟨hN, hP⟩) (px_recv hT hw 0 0 rfl rfl rfl) m12_137 m12_134 m12_136 ms_11_3 m1_21 q_Mpg_doing ⟨show (8 * lv + 26) + 1 ≤ (8 * lv + 27) from by first | with_reducible rfl | with_reducible assumption | omega, show 8 + (2 + 11) + (220 * lv + 1200) ≤ (220 * lv + 1240) from by first | with_reducible rfl | with_reducible assumption | omega⟩ hl.1 rfl (Nat.le_of_ble_eq_true rfl) d_Mpg_byKey_67 ⟨Nat.le_of_ble_eq_true rfl, Nat.le_of_ble_eq_true rfl⟩ hne hlk hA hAe (fun o t h => Or.inr h) ?_ (fun v38 p37 H locs hp37 hw => ?_)
      · exact fun p1 H1 locs1 hp hw => by obtain ⟨pq1, pq2, pq3, pq4, rfl, hq1, hq2⟩ := hp; exact ⟨_, ⟨pq1, pq2, pq3, pq4, rfl, hq1, hq2⟩, hw⟩
      obtain ⟨pf33, na34, ma35, wa36, rfl, e39, e40, e41, e42, e43, e44, e45, e46, e47, e48, e49, e50, e51⟩ := hp37
      have e39 : (pf 11).toInt + 1 ≤ (pf33 11).toInt := e39
      have e40 : (pf33 11).toInt < (tf 6).toInt := e40
      have e41 : (pf 13).toInt + 1 ≤ (pf33 13).toInt := e41
      have e42 : (pf33 13).toInt - (pf 13).toInt ≤ (pf33 11).toInt - (pf 11).toInt := e42
      have e43 : bp ta (pf 11) + 1 ≤ bp ta (pf33 11) := e43
      have e44 : (pf33 12).toInt = (pf 12).toInt := e44
      have e45 : (pf33 24).toInt = (pf 24).toInt := e45
      have e46 : (pf33 25).toInt = (pf 25).toInt := e46
      have e47 : (pf33 26).toInt = (pf 26).toInt := e47
      have e48 : FrB (pf 13).toInt na ma na34 ma35 := e48
      have hfb := hfb.tr e48 (by first | with_reducible rfl | with_reducible assumption | omega)
      have e49 : FrW (pf 26).toInt wa wa36 := e49
      have hfw := hfw.tr e49 (by first | with_reducible rfl | with_reducible assumption | omega)
      have e50 : VlS ta (tf 6).toInt na34 ma35 v38 (pf 13).toInt (pf33 13).toInt (3 * (bp ta (pf33 11) - bp ta (pf 11))) (200 - (pf 12).toInt) := e50
      have hv_v38 := e50
      have hn_hv_v38 := hv_v38.num fs_ok
      have e51 : FsI (tf 6).toInt (pf33 13).toInt na34 := e51
      have hfs := e51
      have hw : pw D A s.heap H locs [wdP cs h r g tf ta pf33 na34 ma35 wa36 cf ca ef ea xf xa] := hw
      have lv38 := Int32.le_toInt v38
      have uv38 := Int32.toInt_lt v38
      exact th_iret (v := v38) S hr rfl hlk hAe hw (⟨pf33, na34, ma35, wa36, rfl, (show (pf 11).toInt + 1 ≤ (pf33 11).toInt from by first | exact e39 | omega), (show (pf33 11).toInt < (tf 6).toInt from by first | exact e40 | omega), (show (pf 13).toInt + 1 ≤ (pf33 13).toInt from by first | exact e41 | omega), (show (pf33 13).toInt - (pf 13).toInt ≤ (pf33 11).toInt - (pf 11).toInt from by first | exact e42 | omega), (show bp ta (pf 11) + 1 ≤ bp ta (pf33 11) from by first | exact e43 | omega), (show (pf33 12).toInt = (pf 12).toInt from by first | exact e44 | omega), (show (pf33 24).toInt = (pf 24).toInt from by first | exact e45 | omega), (show (pf33 25).toInt = (pf 25).toInt from by first | exact e46 | omega), (show (pf33 26).toInt = (pf 26).toInt from by first | exact e47 | omega), (show FrB (pf 13).toInt na ma na34 ma35 from hfb), (show FrW (pf 26).toInt wa wa36 from hfw), (show VlS ta (tf 6).toInt na34 ma35 v38 (pf 13).toInt (pf33 13).toInt (3 * (bp ta (pf33 11) - bp ta (pf 11))) (200 - (pf 12).toInt) from (VlV.le hv_v38 (by first | with_reducible rfl | with_reducible assumption | omega) (by first | with_reducible rfl | with_reducible assumption | omega) (by first | with_reducible rfl | with_reducible assumption | omega) (by first | with_reducible rfl | with_reducible assumption | omega))), (show FsI (tf 6).toInt (pf33 13).toInt na34 from (FsI.le hfs (by first | with_reducible rfl | with_reducible assumption | omega)))⟩) d_Mpg_byKey_70
    · simp only [List.mem_cons, List.not_mem_nil, or_false] at c3
      refine lv_aload_n S.x S.b d_Mpg_byKey_71 rfl (lv_at hl 0 rfl) ?_
      refine th_calli (ps0 := [wdP cs h r g tf ta pf na ma wa cf ca ef ea xf xa]) (pr := []) (pcs := [wdP cs h r g tf ta pf na ma wa cf ca ef ea xf xa]) (As := []) (rest := []) (c_mp_forLoop l D cs h r g tf ta cf ca ef ea xf xa pf na ma wa  lv (show 0 ≤ (pf 11).toInt from by first | exact g0 | omega) (show (pf 11).toInt < (tf 6).toInt from by first | exact g1 | omega) (show (tf 6).toInt ≤ 2049 from by first | exact g2 | omega) (show 0 ≤ (pf 12).toInt from by first | exact g3 | omega) (show (pf 12).toInt ≤ 60 from by first | exact g4 | omega) (show 0 ≤ (pf 13).toInt from by first | exact g5 | omega) (show (pf 13).toInt ≤ (pf 11).toInt + 10 from by first | exact g6 | omega) (show 0 ≤ (pf 26).toInt from by first | exact g7 | omega) (show (pf 26).toInt ≤ (pf 12).toInt from by first | exact g8 | omega) (show 61 ≤ (pf 12).toInt + (lv : Int) from by first | exact g9 | omega) (show lv ≤ 61 from by first | exact g10 | omega) (show (pf 11).toInt + 1 < (tf 6).toInt from by first | exact g11 | omega) hlf htk (FsI.le (N' := (pf 13).toInt) hfs (by first | with_reducible rfl | with_reducible assumption | omega)) hLT) S hT hw (oX_call (P := (fun A U H => (oN A U H) ∧ (oP A g U H))) (pr := []) (oG_and oG_N oG_P) hw hA ⟨hN, hP⟩) (px_recv hT hw 0 0 rfl rfl rfl) m12_141 m12_138 m12_140 ms_11_4 m1_21 q_Mpg_forLoop ⟨show (8 * lv + 26) + 1 ≤ (8 * lv + 27) from by first | with_reducible rfl | with_reducible assumption | omega, show 8 + (3 + 11) + (220 * lv + 1200) ≤ (220 * lv + 1240) from by first | with_reducible rfl | with_reducible assumption | omega⟩ hl.1 rfl (Nat.le_of_ble_eq_true rfl) d_Mpg_byKey_72 ⟨Nat.le_of_ble_eq_true rfl, Nat.le_of_ble_eq_true rfl⟩ hne hlk hA hAe (fun o t h => Or.inr h) ?_ (fun v61 p60 H locs hp60 hw => ?_)
      · exact fun p1 H1 locs1 hp hw => by obtain ⟨pq1, pq2, pq3, pq4, rfl, hq1, hq2⟩ := hp; exact ⟨_, ⟨pq1, pq2, pq3, pq4, rfl, hq1, hq2⟩, hw⟩
      obtain ⟨pf56, na57, ma58, wa59, rfl, e62, e63, e64, e65, e66, e67, e68, e69, e70, e71, e72, e73, e74⟩ := hp60
      have e62 : (pf 11).toInt + 1 ≤ (pf56 11).toInt := e62
      have e63 : (pf56 11).toInt < (tf 6).toInt := e63
      have e64 : (pf 13).toInt + 1 ≤ (pf56 13).toInt := e64
      have e65 : (pf56 13).toInt - (pf 13).toInt ≤ (pf56 11).toInt - (pf 11).toInt := e65
      have e66 : bp ta (pf 11) + 1 ≤ bp ta (pf56 11) := e66
      have e67 : (pf56 12).toInt = (pf 12).toInt := e67
      have e68 : (pf56 24).toInt = (pf 24).toInt := e68
      have e69 : (pf56 25).toInt = (pf 25).toInt := e69
      have e70 : (pf56 26).toInt = (pf 26).toInt := e70
      have e71 : FrB (pf 13).toInt na ma na57 ma58 := e71
      have hfb := hfb.tr e71 (by first | with_reducible rfl | with_reducible assumption | omega)
      have e72 : FrW (pf 26).toInt wa wa59 := e72
      have hfw := hfw.tr e72 (by first | with_reducible rfl | with_reducible assumption | omega)
      have e73 : VlS ta (tf 6).toInt na57 ma58 v61 (pf 13).toInt (pf56 13).toInt (3 * (bp ta (pf56 11) - bp ta (pf 11))) (200 - (pf 12).toInt) := e73
      have hv_v61 := e73
      have hn_hv_v61 := hv_v61.num fs_ok
      have e74 : FsI (tf 6).toInt (pf56 13).toInt na57 := e74
      have hfs := e74
      have hw : pw D A s.heap H locs [wdP cs h r g tf ta pf56 na57 ma58 wa59 cf ca ef ea xf xa] := hw
      have lv61 := Int32.le_toInt v61
      have uv61 := Int32.toInt_lt v61
      exact th_iret (v := v61) S hr rfl hlk hAe hw (⟨pf56, na57, ma58, wa59, rfl, (show (pf 11).toInt + 1 ≤ (pf56 11).toInt from by first | exact e62 | omega), (show (pf56 11).toInt < (tf 6).toInt from by first | exact e63 | omega), (show (pf 13).toInt + 1 ≤ (pf56 13).toInt from by first | exact e64 | omega), (show (pf56 13).toInt - (pf 13).toInt ≤ (pf56 11).toInt - (pf 11).toInt from by first | exact e65 | omega), (show bp ta (pf 11) + 1 ≤ bp ta (pf56 11) from by first | exact e66 | omega), (show (pf56 12).toInt = (pf 12).toInt from by first | exact e67 | omega), (show (pf56 24).toInt = (pf 24).toInt from by first | exact e68 | omega), (show (pf56 25).toInt = (pf 25).toInt from by first | exact e69 | omega), (show (pf56 26).toInt = (pf 26).toInt from by first | exact e70 | omega), (show FrB (pf 13).toInt na ma na57 ma58 from hfb), (show FrW (pf 26).toInt wa wa59 from hfw), (show VlS ta (tf 6).toInt na57 ma58 v61 (pf 13).toInt (pf56 13).toInt (3 * (bp ta (pf56 11) - bp ta (pf 11))) (200 - (pf 12).toInt) from (VlV.le hv_v61 (by first | with_reducible rfl | with_reducible assumption | omega) (by first | with_reducible rfl | with_reducible assumption | omega) (by first | with_reducible rfl | with_reducible assumption | omega) (by first | with_reducible rfl | with_reducible assumption | omega))), (show FsI (tf 6).toInt (pf56 13).toInt na57 from (FsI.le hfs (by first | with_reducible rfl | with_reducible assumption | omega)))⟩) d_Mpg_byKey_75
    · simp only [List.mem_cons, List.not_mem_nil, or_false] at c3
      refine lv_aload_n S.x S.b d_Mpg_byKey_76 rfl (lv_at hl 0 rfl) ?_
      refine th_calli (ps0 := [wdP cs h r g tf ta pf na ma wa cf ca ef ea xf xa]) (pr := []) (pcs := [wdP cs h r g tf ta pf na ma wa cf ca ef ea xf xa]) (As := []) (rest := []) (c_mp_switching l D cs h r g tf ta cf ca ef ea xf xa pf na ma wa  lv (show 0 ≤ (pf 11).toInt from by first | exact g0 | omega) (show (pf 11).toInt < (tf 6).toInt from by first | exact g1 | omega) (show (tf 6).toInt ≤ 2049 from by first | exact g2 | omega) (show 0 ≤ (pf 12).toInt from by first | exact g3 | omega) (show (pf 12).toInt ≤ 60 from by first | exact g4 | omega) (show 0 ≤ (pf 13).toInt from by first | exact g5 | omega) (show (pf 13).toInt ≤ (pf 11).toInt + 10 from by first | exact g6 | omega) (show 0 ≤ (pf 26).toInt from by first | exact g7 | omega) (show (pf 26).toInt ≤ (pf 12).toInt from by first | exact g8 | omega) (show 61 ≤ (pf 12).toInt + (lv : Int) from by first | exact g9 | omega) (show lv ≤ 61 from by first | exact g10 | omega) (show (pf 11).toInt + 1 < (tf 6).toInt from by first | exact g11 | omega) hlf htk (FsI.le (N' := (pf 13).toInt) hfs (by first | with_reducible rfl | with_reducible assumption | omega)) hLT) S hT hw (oX_call (P := (fun A U H => (oN A U H) ∧ (oP A g U H))) (pr := []) (oG_and oG_N oG_P) hw hA ⟨hN, hP⟩) (px_recv hT hw 0 0 rfl rfl rfl) m12_145 m12_142 m12_144 ms_11_5 m1_21 q_Mpg_switching ⟨show (8 * lv + 26) + 1 ≤ (8 * lv + 27) from by first | with_reducible rfl | with_reducible assumption | omega, show 8 + (4 + 11) + (220 * lv + 1200) ≤ (220 * lv + 1240) from by first | with_reducible rfl | with_reducible assumption | omega⟩ hl.1 rfl (Nat.le_of_ble_eq_true rfl) d_Mpg_byKey_77 ⟨Nat.le_of_ble_eq_true rfl, Nat.le_of_ble_eq_true rfl⟩ hne hlk hA hAe (fun o t h => Or.inr h) ?_ (fun v84 p83 H locs hp83 hw => ?_)
      · exact fun p1 H1 locs1 hp hw => by obtain ⟨pq1, pq2, pq3, pq4, rfl, hq1, hq2⟩ := hp; exact ⟨_, ⟨pq1, pq2, pq3, pq4, rfl, hq1, hq2⟩, hw⟩
      obtain ⟨pf79, na80, ma81, wa82, rfl, e85, e86, e87, e88, e89, e90, e91, e92, e93, e94, e95, e96, e97⟩ := hp83
      have e85 : (pf 11).toInt + 1 ≤ (pf79 11).toInt := e85
      have e86 : (pf79 11).toInt < (tf 6).toInt := e86
      have e87 : (pf 13).toInt + 1 ≤ (pf79 13).toInt := e87
      have e88 : (pf79 13).toInt - (pf 13).toInt ≤ (pf79 11).toInt - (pf 11).toInt := e88
      have e89 : bp ta (pf 11) + 1 ≤ bp ta (pf79 11) := e89
      have e90 : (pf79 12).toInt = (pf 12).toInt := e90
      have e91 : (pf79 24).toInt = (pf 24).toInt := e91
      have e92 : (pf79 25).toInt = (pf 25).toInt := e92
      have e93 : (pf79 26).toInt = (pf 26).toInt := e93
      have e94 : FrB (pf 13).toInt na ma na80 ma81 := e94
      have hfb := hfb.tr e94 (by first | with_reducible rfl | with_reducible assumption | omega)
      have e95 : FrW (pf 26).toInt wa wa82 := e95
      have hfw := hfw.tr e95 (by first | with_reducible rfl | with_reducible assumption | omega)
      have e96 : VlS ta (tf 6).toInt na80 ma81 v84 (pf 13).toInt (pf79 13).toInt (3 * (bp ta (pf79 11) - bp ta (pf 11))) (200 - (pf 12).toInt) := e96
      have hv_v84 := e96
      have hn_hv_v84 := hv_v84.num fs_ok
      have e97 : FsI (tf 6).toInt (pf79 13).toInt na80 := e97
      have hfs := e97
      have hw : pw D A s.heap H locs [wdP cs h r g tf ta pf79 na80 ma81 wa82 cf ca ef ea xf xa] := hw
      have lv84 := Int32.le_toInt v84
      have uv84 := Int32.toInt_lt v84
      exact th_iret (v := v84) S hr rfl hlk hAe hw (⟨pf79, na80, ma81, wa82, rfl, (show (pf 11).toInt + 1 ≤ (pf79 11).toInt from by first | exact e85 | omega), (show (pf79 11).toInt < (tf 6).toInt from by first | exact e86 | omega), (show (pf 13).toInt + 1 ≤ (pf79 13).toInt from by first | exact e87 | omega), (show (pf79 13).toInt - (pf 13).toInt ≤ (pf79 11).toInt - (pf 11).toInt from by first | exact e88 | omega), (show bp ta (pf 11) + 1 ≤ bp ta (pf79 11) from by first | exact e89 | omega), (show (pf79 12).toInt = (pf 12).toInt from by first | exact e90 | omega), (show (pf79 24).toInt = (pf 24).toInt from by first | exact e91 | omega), (show (pf79 25).toInt = (pf 25).toInt from by first | exact e92 | omega), (show (pf79 26).toInt = (pf 26).toInt from by first | exact e93 | omega), (show FrB (pf 13).toInt na ma na80 ma81 from hfb), (show FrW (pf 26).toInt wa wa82 from hfw), (show VlS ta (tf 6).toInt na80 ma81 v84 (pf 13).toInt (pf79 13).toInt (3 * (bp ta (pf79 11) - bp ta (pf 11))) (200 - (pf 12).toInt) from (VlV.le hv_v84 (by first | with_reducible rfl | with_reducible assumption | omega) (by first | with_reducible rfl | with_reducible assumption | omega) (by first | with_reducible rfl | with_reducible assumption | omega) (by first | with_reducible rfl | with_reducible assumption | omega))), (show FsI (tf 6).toInt (pf79 13).toInt na80 from (FsI.le hfs (by first | with_reducible rfl | with_reducible assumption | omega)))⟩) d_Mpg_byKey_80
    · simp only [List.mem_cons, List.not_mem_nil, or_false] at c3
      refine lv_aload_n S.x S.b d_Mpg_byKey_81 rfl (lv_at hl 0 rfl) ?_
      refine lv_dup S.x S.b d_Mpg_byKey_82 rfl ?_
      refine px_get S k_Mpg hT hw 0 0 11 (v := .int (pf 11)) rfl rfl rfl (by decide) m9_235 d_Mpg_byKey_83 ?_
      refine lv_iconst (v := 1) S.x S.b d_Mpg_byKey_86 (by decide) ?_
      refine lv_iadd S.x S.b d_Mpg_byKey_87 ?_
      have lr98 := Int32.le_toInt (pf 11)
      have ur98 := Int32.toInt_lt (pf 11)
      refine lv_topi (fun z99 ez99 => ?_)
      have tz99 : z99.toInt = ((pf 11).toInt + (1 : Int) + 2147483648) % 4294967296 - 2147483648 := by rw [ez99]; exact i_add (pf 11) 1
      have lz99 := Int32.le_toInt z99
      have uz99 := Int32.toInt_lt z99
      try replace tz99 : z99.toInt = (pf 11).toInt + (1 : Int) := by omega
      have hnx87 := tk_n htk (x := (pf 11)) (y := z99) (by first | with_reducible rfl | with_reducible assumption | omega) (by first | with_reducible rfl | with_reducible assumption | omega) (by first | with_reducible rfl | with_reducible assumption | omega)
      refine px_put S k_Mpg hT hw 0 0 11 rfl rfl (by decide) m9_235 rfl rfl rfl (Nat.le_of_ble_eq_true rfl) d_Mpg_byKey_88 (w' := wdP cs h r g tf ta (upd pf 11 z99) na ma wa cf ca ef ea xf xa) (ps' := [wdP cs h r g tf ta (upd pf 11 z99) na ma wa cf ca ef ea xf xa]) rfl rfl (fun H locs hw => ?_)
      refine lv_aload_n S.x S.b d_Mpg_byKey_91 rfl (lv_at hl 0 rfl) ?_
      obtain ⟨sk100, hRsk100, st101, sb102, hSsk100⟩ := oP_lit hP (k := 101) (tx := ";") (n := 1) (List.mem_of_getElem? (i := 42) rfl)
      refine va_ldcS S.x S.b S.own hRsk100 d_Mpg_byKey_92 ?_
      refine th_callv (ps0 := [wdP cs h r g tf ta pf na ma wa cf ca ef ea xf xa]) (pr := []) (pcs := [wdP cs h r g tf ta (upd pf 11 z99) na ma wa cf ca ef ea xf xa]) (As := [.ref sk100]) (rest := []) (c_mp_take l D cs sk100 1 h r g tf ta na ma wa cf ca ef ea xf xa (upd pf 11 z99)   (show 0 ≤ z99.toInt from by first | exact oz_b3b25f0e49 tz99 g0 | omega) (show z99.toInt < (tf 6).toInt from by first | exact oz_aa088a5f4c g11 tz99 | omega) (show (tf 6).toInt ≤ 2049 from by first | exact g2 | omega) (show 1 ≤ 100 from by first | decide | omega) hlf htk) S hT hw (oX_call (P := (fun A U H => (oN A U H) ∧ (oP A g U H) ∧ (StS A sk100 1 U H))) (pr := []) (oG_and oG_N (oG_and oG_P oG_Q)) hw hA ⟨hN, hP, ⟨_, _, hSsk100⟩⟩) (px_recv hT hw 0 0 rfl rfl rfl) m12_57 m12_54 m12_56 ms_9_15 m1_21 q_Mpg_take ⟨show 7 + 1 ≤ (8 * lv + 27) from by first | with_reducible rfl | with_reducible assumption | omega, show 8 + (2 + 11) + 230 ≤ (220 * lv + 1240) from by first | with_reducible rfl | with_reducible assumption | omega⟩ hl.1 rfl (Nat.le_of_ble_eq_true rfl) d_Mpg_byKey_94 ⟨Nat.le_of_ble_eq_true rfl, Nat.le_of_ble_eq_true rfl⟩ hne hlk hA hAe (fun o t h => Or.inr h) ?_ (fun p105 H locs hp105 hw => ?_)
      · exact fun p1 H1 locs1 hp hw => by obtain ⟨pq1, pq2, pq3, pq4, rfl, hq1, hq2⟩ := hp; exact ⟨_, ⟨pq1, pq2, pq3, pq4, rfl, hq1, hq2⟩, hw⟩
      obtain ⟨pf104, rfl, e107, e108, e109, e110, e111, e112, e113, e114⟩ := hp105
      have e107 : (pf104 11).toInt = z99.toInt + 1 := e107
      have e108 : (pf104 11).toInt < (tf 6).toInt := e108
      have e109 : bp ta z99 + 1 ≤ bp ta (pf104 11) := e109
      have e110 : (pf104 12).toInt = (pf 12).toInt := e110
      have e111 : (pf104 13).toInt = (pf 13).toInt := e111
      have e112 : (pf104 24).toInt = (pf 24).toInt := e112
      have e113 : (pf104 25).toInt = (pf 25).toInt := e113
      have e114 : (pf104 26).toInt = (pf 26).toInt := e114
      have hw : pw D A s.heap H locs [wdP cs h r g tf ta pf104 na ma wa cf ca ef ea xf xa] := hw
      refine lv_aload_n S.x S.b d_Mpg_byKey_97 rfl (lv_at hl 0 rfl) ?_
      refine lv_iload_n S.x S.b d_Mpg_byKey_98 rfl (lv_at hl 1 rfl) ?_
      refine lv_bipush (v := 12) S.x S.b d_Mpg_byKey_99 (by decide) ?_
      refine lv_icmp_ne (tgt := 109) S.x S.b d_Mpg_byKey_101 (by decide) (fun c115 => ?_) (fun c115 => ?_)
      · have nc115 : ¬ p0.toInt = (12 : Int) := mt (i_eq (x := p0) (y := 12)).mpr c115
        refine lv_bipush (v := 32) S.x S.b d_Mpg_byKey_109 (by decide) ?_
        refine lv_aload_n S.x S.b d_Mpg_byKey_111 rfl (lv_at hl 0 rfl) ?_
        refine px_get S k_Mpg hT hw 0 0 11 (v := .int (pf104 11)) rfl rfl rfl (by decide) m9_235 d_Mpg_byKey_112 ?_
        refine lv_iconst (v := 2) S.x S.b d_Mpg_byKey_115 (by decide) ?_
        refine lv_isub S.x S.b d_Mpg_byKey_116 ?_
        have lr116 := Int32.le_toInt (pf104 11)
        have ur116 := Int32.toInt_lt (pf104 11)
        refine lv_topi (fun z117 ez117 => ?_)
        have tz117 : z117.toInt = ((pf104 11).toInt - (2 : Int) + 2147483648) % 4294967296 - 2147483648 := by rw [ez117]; exact i_sub (pf104 11) 2
        have lz117 := Int32.le_toInt z117
        have uz117 := Int32.toInt_lt z117
        try replace tz117 : z117.toInt = (pf104 11).toInt - (2 : Int) := by omega
        refine px_calli (pr := []) (px_runV (As := [.int 32, .int z117]) (rest := []) S (c_mp_make l D cs h r g tf ta wa cf ca ef ea xf xa pf104 na ma 32 z117  (show 0 ≤ (pf104 13).toInt from by first | exact oz_f3ebed1ad0 e111 g5 | omega) (show (pf104 13).toInt < 2100 from by first | exact oz_6fe2caf3b5 e111 g6 tz99 g2 e107 e108 | omega) _) hT (pr := []) (pcs := [wdP cs h r g tf ta pf104 na ma wa cf ca ef ea xf xa]) hw px_X.tt (px_recv hT hw 0 0 rfl rfl rfl) m11_209 m11_206 m11_208 ms_8_12 m1_21 q_Mpg_make ⟨show 0 + 1 ≤ (8 * lv + 27) from by first | with_reducible rfl | with_reducible assumption | omega, show 8 + (3 + 11) + 0 ≤ (220 * lv + 1240) from by first | with_reducible rfl | with_reducible assumption | omega⟩ hl.1 rfl (Nat.le_of_ble_eq_true rfl) d_Mpg_byKey_117 ⟨Nat.le_of_ble_eq_true rfl, Nat.le_of_ble_eq_true rfl⟩) hw hA (fun v125 p124 H locs hp124 hw => ?_)
        obtain ⟨pf121, na122, ma123, rfl, e126, e127, e128, e129, e130, e131, e132, e133⟩ := hp124
        have e126 : v125.toInt = (pf104 13).toInt := e126
        have e127 : (pf121 13).toInt = (pf104 13).toInt + 1 := e127
        have e128 : (pf121 11).toInt = (pf104 11).toInt := e128
        have e129 : (pf121 12).toInt = (pf104 12).toInt := e129
        have e130 : (pf121 24).toInt = (pf104 24).toInt := e130
        have e131 : (pf121 25).toInt = (pf104 25).toInt := e131
        have e132 : (pf121 26).toInt = (pf104 26).toInt := e132
        have e133 : MkN na ma na122 ma123 v125 (32 : Int32) z117 := e133
        obtain ⟨qb1341, qb1342, qb1343, qb1344⟩ := tk_eq (ta := ta) (x := (pf121 11)) (y := (pf104 11)) (by first | with_reducible rfl | with_reducible assumption | omega)
        have hmk_v125 := e133
        have hfm_v125 := MkN.frb (b := v125.toInt) hmk_v125 (by first | with_reducible rfl | with_reducible assumption | omega) (by first | with_reducible rfl | with_reducible assumption | omega)
        have hfs := FsI.mk hfs hmk_v125 (by first | with_reducible rfl | with_reducible assumption | omega) (by first | with_reducible rfl | with_reducible assumption | omega) (by first | with_reducible rfl | with_reducible assumption | omega) (by first | with_reducible rfl | with_reducible assumption | omega)
        have hfb := hfb.tr hfm_v125 (by first | with_reducible rfl | with_reducible assumption | omega)
        have hf_14_v125 := hmk_v125.2.1 (by decide) (by decide)
        have hf_15_v125 := hmk_v125.2.2.1
        have hf_17_v125 := hmk_v125.2.2.2.2.1
        have hf_21_v125 := hmk_v125.2.2.2.2.2.2.2.2.1
        clear hmk_v125 hfm_v125
        have hw : pw D A s.heap H locs [wdP cs h r g tf ta pf121 na122 ma123 wa cf ca ef ea xf xa] := hw
        have lv125 := Int32.le_toInt v125
        have uv125 := Int32.toInt_lt v125
        exact th_iret (v := v125) S hr rfl hlk hAe hw (⟨pf121, na122, ma123, wa, rfl, (show (pf 11).toInt + 1 ≤ (pf121 11).toInt from by first | exact oz_72d36d3019 tz99 e128 e107 | omega), (show (pf121 11).toInt < (tf 6).toInt from by first | exact oz_5d2fbac15b e108 e128 | omega), (show (pf 13).toInt + 1 ≤ (pf121 13).toInt from by first | exact oz_5a83f0d431 e111 e127 | omega), (show (pf121 13).toInt - (pf 13).toInt ≤ (pf121 11).toInt - (pf 11).toInt from by first | exact oz_14c9e34823 tz99 e111 e127 e128 e107 | omega), (show bp ta (pf 11) + 1 ≤ bp ta (pf121 11) from by first | with_reducible rfl | with_reducible assumption | omega), (show (pf121 12).toInt = (pf 12).toInt from by first | exact oz_1687f4cc65 e110 e129 | omega), (show (pf121 24).toInt = (pf 24).toInt from by first | exact oz_1687f4cc65 e112 e130 | omega), (show (pf121 25).toInt = (pf 25).toInt from by first | exact oz_1687f4cc65 e113 e131 | omega), (show (pf121 26).toInt = (pf 26).toInt from by first | exact oz_1687f4cc65 e114 e132 | omega), (show FrB (pf 13).toInt na ma na122 ma123 from hfb), (show FrW (pf 26).toInt wa wa from hfw), (show VlS ta (tf 6).toInt na122 ma123 v125 (pf 13).toInt (pf121 13).toInt (3 * (bp ta (pf121 11) - bp ta (pf 11))) (200 - (pf 12).toInt) from (VlV.le (st_jump (hi := (pf121 13).toInt) (D := 130) ⟨by first | with_reducible rfl | with_reducible assumption | omega, hf_14_v125, hf_15_v125, ⟨by first | with_reducible rfl | with_reducible assumption | omega, by first | with_reducible rfl | with_reducible assumption | omega⟩, hf_21_v125⟩ (by decide) (by first | with_reducible rfl | with_reducible assumption | omega) (by first | with_reducible rfl | with_reducible assumption | omega)) (by first | with_reducible rfl | with_reducible assumption | omega) (by first | with_reducible rfl | with_reducible assumption | omega) (by first | with_reducible rfl | with_reducible assumption | omega) (by first | with_reducible rfl | with_reducible assumption | omega))), (show FsI (tf 6).toInt (pf121 13).toInt na122 from (FsI.le hfs (by first | with_reducible rfl | with_reducible assumption | omega)))⟩) d_Mpg_byKey_120
      · have nc115 : p0.toInt = (12 : Int) := (i_eq (x := p0) (y := 12)).mp c115
        refine lv_bipush (v := 31) S.x S.b d_Mpg_byKey_104 (by decide) ?_
        refine lv_goto (tgt := 111) S.x S.b d_Mpg_byKey_106 (by decide) ?_
        refine lv_aload_n S.x S.b d_Mpg_byKey_111 rfl (lv_at hl 0 rfl) ?_
        refine px_get S k_Mpg hT hw 0 0 11 (v := .int (pf104 11)) rfl rfl rfl (by decide) m9_235 d_Mpg_byKey_112 ?_
        refine lv_iconst (v := 2) S.x S.b d_Mpg_byKey_115 (by decide) ?_
        refine lv_isub S.x S.b d_Mpg_byKey_116 ?_
        have lr135 := Int32.le_toInt (pf104 11)
        have ur135 := Int32.toInt_lt (pf104 11)
        refine lv_topi (fun z136 ez136 => ?_)
        have tz136 : z136.toInt = ((pf104 11).toInt - (2 : Int) + 2147483648) % 4294967296 - 2147483648 := by rw [ez136]; exact i_sub (pf104 11) 2
        have lz136 := Int32.le_toInt z136
        have uz136 := Int32.toInt_lt z136
        try replace tz136 : z136.toInt = (pf104 11).toInt - (2 : Int) := by omega
        refine px_calli (pr := []) (px_runV (As := [.int 31, .int z136]) (rest := []) S (c_mp_make l D cs h r g tf ta wa cf ca ef ea xf xa pf104 na ma 31 z136  (show 0 ≤ (pf104 13).toInt from by first | exact oz_f3ebed1ad0 e111 g5 | omega) (show (pf104 13).toInt < 2100 from by first | exact oz_6fe2caf3b5 e111 g6 tz99 g2 e107 e108 | omega) _) hT (pr := []) (pcs := [wdP cs h r g tf ta pf104 na ma wa cf ca ef ea xf xa]) hw px_X.tt (px_recv hT hw 0 0 rfl rfl rfl) m11_209 m11_206 m11_208 ms_8_12 m1_21 q_Mpg_make ⟨show 0 + 1 ≤ (8 * lv + 27) from by first | with_reducible rfl | with_reducible assumption | omega, show 8 + (3 + 11) + 0 ≤ (220 * lv + 1240) from by first | with_reducible rfl | with_reducible assumption | omega⟩ hl.1 rfl (Nat.le_of_ble_eq_true rfl) d_Mpg_byKey_117 ⟨Nat.le_of_ble_eq_true rfl, Nat.le_of_ble_eq_true rfl⟩) hw hA (fun v144 p143 H locs hp143 hw => ?_)
        obtain ⟨pf140, na141, ma142, rfl, e145, e146, e147, e148, e149, e150, e151, e152⟩ := hp143
        have e145 : v144.toInt = (pf104 13).toInt := e145
        have e146 : (pf140 13).toInt = (pf104 13).toInt + 1 := e146
        have e147 : (pf140 11).toInt = (pf104 11).toInt := e147
        have e148 : (pf140 12).toInt = (pf104 12).toInt := e148
        have e149 : (pf140 24).toInt = (pf104 24).toInt := e149
        have e150 : (pf140 25).toInt = (pf104 25).toInt := e150
        have e151 : (pf140 26).toInt = (pf104 26).toInt := e151
        have e152 : MkN na ma na141 ma142 v144 (31 : Int32) z136 := e152
        obtain ⟨qb1531, qb1532, qb1533, qb1534⟩ := tk_eq (ta := ta) (x := (pf140 11)) (y := (pf104 11)) (by first | with_reducible rfl | with_reducible assumption | omega)
        have hmk_v144 := e152
        have hfm_v144 := MkN.frb (b := v144.toInt) hmk_v144 (by first | with_reducible rfl | with_reducible assumption | omega) (by first | with_reducible rfl | with_reducible assumption | omega)
        have hfs := FsI.mk hfs hmk_v144 (by first | with_reducible rfl | with_reducible assumption | omega) (by first | with_reducible rfl | with_reducible assumption | omega) (by first | with_reducible rfl | with_reducible assumption | omega) (by first | with_reducible rfl | with_reducible assumption | omega)
        have hfb := hfb.tr hfm_v144 (by first | with_reducible rfl | with_reducible assumption | omega)
        have hf_14_v144 := hmk_v144.2.1 (by decide) (by decide)
        have hf_15_v144 := hmk_v144.2.2.1
        have hf_17_v144 := hmk_v144.2.2.2.2.1
        have hf_21_v144 := hmk_v144.2.2.2.2.2.2.2.2.1
        clear hmk_v144 hfm_v144
        have hw : pw D A s.heap H locs [wdP cs h r g tf ta pf140 na141 ma142 wa cf ca ef ea xf xa] := hw
        have lv144 := Int32.le_toInt v144
        have uv144 := Int32.toInt_lt v144
        exact th_iret (v := v144) S hr rfl hlk hAe hw (⟨pf140, na141, ma142, wa, rfl, (show (pf 11).toInt + 1 ≤ (pf140 11).toInt from by first | exact oz_72d36d3019 tz99 e147 e107 | omega), (show (pf140 11).toInt < (tf 6).toInt from by first | exact oz_5d2fbac15b e108 e147 | omega), (show (pf 13).toInt + 1 ≤ (pf140 13).toInt from by first | exact oz_5a83f0d431 e111 e146 | omega), (show (pf140 13).toInt - (pf 13).toInt ≤ (pf140 11).toInt - (pf 11).toInt from by first | exact oz_14c9e34823 tz99 e111 e146 e147 e107 | omega), (show bp ta (pf 11) + 1 ≤ bp ta (pf140 11) from by first | with_reducible rfl | with_reducible assumption | omega), (show (pf140 12).toInt = (pf 12).toInt from by first | exact oz_1687f4cc65 e110 e148 | omega), (show (pf140 24).toInt = (pf 24).toInt from by first | exact oz_1687f4cc65 e112 e149 | omega), (show (pf140 25).toInt = (pf 25).toInt from by first | exact oz_1687f4cc65 e113 e150 | omega), (show (pf140 26).toInt = (pf 26).toInt from by first | exact oz_1687f4cc65 e114 e151 | omega), (show FrB (pf 13).toInt na ma na141 ma142 from hfb), (show FrW (pf 26).toInt wa wa from hfw), (show VlS ta (tf 6).toInt na141 ma142 v144 (pf 13).toInt (pf140 13).toInt (3 * (bp ta (pf140 11) - bp ta (pf 11))) (200 - (pf 12).toInt) from (VlV.le (st_jump (hi := (pf140 13).toInt) (D := 130) ⟨by first | with_reducible rfl | with_reducible assumption | omega, hf_14_v144, hf_15_v144, ⟨by first | with_reducible rfl | with_reducible assumption | omega, by first | with_reducible rfl | with_reducible assumption | omega⟩, hf_21_v144⟩ (by decide) (by first | with_reducible rfl | with_reducible assumption | omega) (by first | with_reducible rfl | with_reducible assumption | omega)) (by first | with_reducible rfl | with_reducible assumption | omega) (by first | with_reducible rfl | with_reducible assumption | omega) (by first | with_reducible rfl | with_reducible assumption | omega) (by first | with_reducible rfl | with_reducible assumption | omega))), (show FsI (tf 6).toInt (pf140 13).toInt na141 from (FsI.le hfs (by first | with_reducible rfl | with_reducible assumption | omega)))⟩) d_Mpg_byKey_120
    · simp only [List.mem_cons, List.not_mem_nil, or_false] at c3
      refine lv_aload_n S.x S.b d_Mpg_byKey_121 rfl (lv_at hl 0 rfl) ?_
      refine lv_bipush (v := 33) S.x S.b d_Mpg_byKey_122 (by decide) ?_
      refine lv_aload_n S.x S.b d_Mpg_byKey_124 rfl (lv_at hl 0 rfl) ?_
      refine px_get S k_Mpg hT hw 0 0 11 (v := .int (pf 11)) rfl rfl rfl (by decide) m9_235 d_Mpg_byKey_125 ?_
      refine px_calli (pr := []) (px_runV (As := [.int 33, .int (pf 11)]) (rest := []) S (c_mp_make l D cs h r g tf ta wa cf ca ef ea xf xa pf na ma 33 (pf 11)  (show 0 ≤ (pf 13).toInt from by first | exact g5 | omega) (show (pf 13).toInt < 2100 from by first | exact oz_1fa6c9b1b7 g6 g11 g2 | omega) _) hT (pr := []) (pcs := [wdP cs h r g tf ta pf na ma wa cf ca ef ea xf xa]) hw px_X.tt (px_recv hT hw 0 0 rfl rfl rfl) m11_209 m11_206 m11_208 ms_8_12 m1_21 q_Mpg_make ⟨show 0 + 1 ≤ (8 * lv + 27) from by first | with_reducible rfl | with_reducible assumption | omega, show 8 + (3 + 11) + 0 ≤ (220 * lv + 1240) from by first | with_reducible rfl | with_reducible assumption | omega⟩ hl.1 rfl (Nat.le_of_ble_eq_true rfl) d_Mpg_byKey_128 ⟨Nat.le_of_ble_eq_true rfl, Nat.le_of_ble_eq_true rfl⟩) hw hA (fun v161 p160 H locs hp160 hw => ?_)
      obtain ⟨pf157, na158, ma159, rfl, e162, e163, e164, e165, e166, e167, e168, e169⟩ := hp160
      have e162 : v161.toInt = (pf 13).toInt := e162
      have e163 : (pf157 13).toInt = (pf 13).toInt + 1 := e163
      have e164 : (pf157 11).toInt = (pf 11).toInt := e164
      have e165 : (pf157 12).toInt = (pf 12).toInt := e165
      have e166 : (pf157 24).toInt = (pf 24).toInt := e166
      have e167 : (pf157 25).toInt = (pf 25).toInt := e167
      have e168 : (pf157 26).toInt = (pf 26).toInt := e168
      have e169 : MkN na ma na158 ma159 v161 (33 : Int32) (pf 11) := e169
      obtain ⟨qb1701, qb1702, qb1703, qb1704⟩ := tk_eq (ta := ta) (x := (pf157 11)) (y := (pf 11)) (by first | with_reducible rfl | with_reducible assumption | omega)
      have hmk_v161 := e169
      have hfm_v161 := MkN.frb (b := v161.toInt) hmk_v161 (by first | with_reducible rfl | with_reducible assumption | omega) (by first | with_reducible rfl | with_reducible assumption | omega)
      have hfs := FsI.mk hfs hmk_v161 (by first | with_reducible rfl | with_reducible assumption | omega) (by first | with_reducible rfl | with_reducible assumption | omega) (by first | with_reducible rfl | with_reducible assumption | omega) (by first | with_reducible rfl | with_reducible assumption | omega)
      have hfb := hfb.tr hfm_v161 (by first | with_reducible rfl | with_reducible assumption | omega)
      have hf_14_v161 := hmk_v161.2.1 (by decide) (by decide)
      have hf_15_v161 := hmk_v161.2.2.1
      have hf_17_v161 := hmk_v161.2.2.2.2.1
      have hf_21_v161 := hmk_v161.2.2.2.2.2.2.2.2.1
      clear hmk_v161 hfm_v161
      have hw : pw D A s.heap H locs [wdP cs h r g tf ta pf157 na158 ma159 wa cf ca ef ea xf xa] := hw
      have lv161 := Int32.le_toInt v161
      have uv161 := Int32.toInt_lt v161
      refine lv_istore_n (lv' := [(2, .int v161), (0, .ref h), (1, .int p0)]) S.x S.b d_Mpg_byKey_131 rfl hl (by decide) rfl (fun ls hl => ?_)
      refine lv_aload_n S.x S.b d_Mpg_byKey_132 rfl (lv_at hl 1 rfl) ?_
      refine lv_dup S.x S.b d_Mpg_byKey_133 rfl ?_
      refine px_get S k_Mpg hT hw 0 0 11 (v := .int (pf157 11)) rfl rfl rfl (by decide) m9_235 d_Mpg_byKey_134 ?_
      refine lv_iconst (v := 1) S.x S.b d_Mpg_byKey_137 (by decide) ?_
      refine lv_iadd S.x S.b d_Mpg_byKey_138 ?_
      have lr171 := Int32.le_toInt (pf157 11)
      have ur171 := Int32.toInt_lt (pf157 11)
      refine lv_topi (fun z172 ez172 => ?_)
      have tz172 : z172.toInt = ((pf157 11).toInt + (1 : Int) + 2147483648) % 4294967296 - 2147483648 := by rw [ez172]; exact i_add (pf157 11) 1
      have lz172 := Int32.le_toInt z172
      have uz172 := Int32.toInt_lt z172
      try replace tz172 : z172.toInt = (pf157 11).toInt + (1 : Int) := by omega
      have hnx138 := tk_n htk (x := (pf157 11)) (y := z172) (by first | with_reducible rfl | with_reducible assumption | omega) (by first | with_reducible rfl | with_reducible assumption | omega) (by first | with_reducible rfl | with_reducible assumption | omega)
      refine px_put S k_Mpg hT hw 0 0 11 rfl rfl (by decide) m9_235 rfl rfl rfl (Nat.le_of_ble_eq_true rfl) d_Mpg_byKey_139 (w' := wdP cs h r g tf ta (upd pf157 11 z172) na158 ma159 wa cf ca ef ea xf xa) (ps' := [wdP cs h r g tf ta (upd pf157 11 z172) na158 ma159 wa cf ca ef ea xf xa]) rfl rfl (fun H locs hw => ?_)
      refine lv_aload_n S.x S.b d_Mpg_byKey_142 rfl (lv_at hl 1 rfl) ?_
      obtain ⟨sk173, hRsk173, st174, sb175, hSsk173⟩ := oP_lit hP (k := 101) (tx := ";") (n := 1) (List.mem_of_getElem? (i := 42) rfl)
      refine va_ldcS S.x S.b S.own hRsk173 d_Mpg_byKey_143 ?_
      refine px_calli (pr := []) (px_runV (As := [.ref sk173]) (rest := []) S (c_mp_is l D cs sk173 1 h r g tf ta (upd pf157 11 z172) na158 ma159 wa cf ca ef ea xf xa   (show 0 ≤ z172.toInt from by first | exact oz_9bc226aaf4 tz172 e164 g0 | omega) (show z172.toInt < (tf 6).toInt from by first | exact oz_93bebfa6cb g11 tz172 e164 | omega) (show (tf 6).toInt ≤ 2049 from by first | exact g2 | omega) (show 1 ≤ 100 from by first | decide | omega) htk _) hT (pr := []) (pcs := [wdP cs h r g tf ta (upd pf157 11 z172) na158 ma159 wa cf ca ef ea xf xa]) hw (oX_call (P := (fun A U H => (oP A g U H) ∧ (StS A sk173 1 U H))) (pr := []) (oG_and oG_P oG_Q) hw hA ⟨hP, ⟨_, _, hSsk173⟩⟩) (px_recv hT hw 0 0 rfl rfl rfl) m11_217 m11_214 m11_216 ms_8_14 m1_21 q_Mpg_is ⟨show 3 + 1 ≤ (8 * lv + 27) from by first | with_reducible rfl | with_reducible assumption | omega, show 8 + (2 + 11) + 120 ≤ (220 * lv + 1240) from by first | with_reducible rfl | with_reducible assumption | omega⟩ hl.1 rfl (Nat.le_of_ble_eq_true rfl) d_Mpg_byKey_145 ⟨Nat.le_of_ble_eq_true rfl, Nat.le_of_ble_eq_true rfl⟩) hw hA (fun v177 p176 H locs hp176 hw => ?_)
      obtain ⟨rfl, e178, e179⟩ := hp176
      have e178 := z_rng e178
      have e179 : v177.toInt = 1 → z172.toInt + 1 < (tf 6).toInt ∧ so ta z172 = 5 := e179
      have hw : pw D A s.heap H locs [wdP cs h r g tf ta (upd pf157 11 z172) na158 ma159 wa cf ca ef ea xf xa] := hw
      have lv177 := Int32.le_toInt v177
      have uv177 := Int32.toInt_lt v177
      refine lv_if_ne (tgt := 161) S.x S.b d_Mpg_byKey_148 (by decide) (fun c180 => ?_) (fun c180 => ?_)
      · have nc180 : ¬ v177.toInt = (0 : Int) := mt (i_eq (x := v177) (y := 0)).mpr c180
        refine lv_aload_n S.x S.b d_Mpg_byKey_161 rfl (lv_at hl 1 rfl) ?_
        obtain ⟨sk181, hRsk181, st182, sb183, hSsk181⟩ := oP_lit hP (k := 101) (tx := ";") (n := 1) (List.mem_of_getElem? (i := 42) rfl)
        refine va_ldcS S.x S.b S.own hRsk181 d_Mpg_byKey_162 ?_
        refine th_callv (ps0 := [wdP cs h r g tf ta pf na ma wa cf ca ef ea xf xa]) (pr := []) (pcs := [wdP cs h r g tf ta (upd pf157 11 z172) na158 ma159 wa cf ca ef ea xf xa]) (As := [.ref sk181]) (rest := []) (c_mp_take l D cs sk181 1 h r g tf ta na158 ma159 wa cf ca ef ea xf xa (upd pf157 11 z172)   (show 0 ≤ z172.toInt from by first | exact oz_9bc226aaf4 tz172 e164 g0 | omega) (show z172.toInt < (tf 6).toInt from by first | exact oz_93bebfa6cb g11 tz172 e164 | omega) (show (tf 6).toInt ≤ 2049 from by first | exact g2 | omega) (show 1 ≤ 100 from by first | decide | omega) hlf htk) S hT hw (oX_call (P := (fun A U H => (oN A U H) ∧ (oP A g U H) ∧ (StS A sk181 1 U H))) (pr := []) (oG_and oG_N (oG_and oG_P oG_Q)) hw hA ⟨hN, hP, ⟨_, _, hSsk181⟩⟩) (px_recv hT hw 0 0 rfl rfl rfl) m12_57 m12_54 m12_56 ms_9_15 m1_21 q_Mpg_take ⟨show 7 + 1 ≤ (8 * lv + 27) from by first | with_reducible rfl | with_reducible assumption | omega, show 8 + (2 + 11) + 230 ≤ (220 * lv + 1240) from by first | with_reducible rfl | with_reducible assumption | omega⟩ hl.1 rfl (Nat.le_of_ble_eq_true rfl) d_Mpg_byKey_164 ⟨Nat.le_of_ble_eq_true rfl, Nat.le_of_ble_eq_true rfl⟩ hne hlk hA hAe (fun o t h => Or.inr h) ?_ (fun p186 H locs hp186 hw => ?_)
        · exact fun p1 H1 locs1 hp hw => by obtain ⟨pq1, pq2, pq3, pq4, rfl, hq1, hq2⟩ := hp; exact ⟨_, ⟨pq1, pq2, pq3, pq4, rfl, hq1, hq2⟩, hw⟩
        obtain ⟨pf185, rfl, e188, e189, e190, e191, e192, e193, e194, e195⟩ := hp186
        have e188 : (pf185 11).toInt = z172.toInt + 1 := e188
        have e189 : (pf185 11).toInt < (tf 6).toInt := e189
        have e190 : bp ta z172 + 1 ≤ bp ta (pf185 11) := e190
        have e191 : (pf185 12).toInt = (pf157 12).toInt := e191
        have e192 : (pf185 13).toInt = (pf157 13).toInt := e192
        have e193 : (pf185 24).toInt = (pf157 24).toInt := e193
        have e194 : (pf185 25).toInt = (pf157 25).toInt := e194
        have e195 : (pf185 26).toInt = (pf157 26).toInt := e195
        have hw : pw D A s.heap H locs [wdP cs h r g tf ta pf185 na158 ma159 wa cf ca ef ea xf xa] := hw
        refine lv_iload_n S.x S.b d_Mpg_byKey_167 rfl (lv_at hl 0 rfl) ?_
        exact th_iret (v := v161) S hr rfl hlk hAe hw (⟨pf185, na158, ma159, wa, rfl, (show (pf 11).toInt + 1 ≤ (pf185 11).toInt from by first | exact oz_5ed86b5fc2 e164 e188 tz172 | omega), (show (pf185 11).toInt < (tf 6).toInt from by first | exact e189 | omega), (show (pf 13).toInt + 1 ≤ (pf185 13).toInt from by first | exact oz_08747c10a9 e163 e192 | omega), (show (pf185 13).toInt - (pf 13).toInt ≤ (pf185 11).toInt - (pf 11).toInt from by first | exact oz_6744965aff e163 e164 e188 e192 tz172 | omega), (show bp ta (pf 11) + 1 ≤ bp ta (pf185 11) from by first | with_reducible rfl | with_reducible assumption | omega), (show (pf185 12).toInt = (pf 12).toInt from by first | exact oz_1687f4cc65 e165 e191 | omega), (show (pf185 24).toInt = (pf 24).toInt from by first | exact oz_1687f4cc65 e166 e193 | omega), (show (pf185 25).toInt = (pf 25).toInt from by first | exact oz_1687f4cc65 e167 e194 | omega), (show (pf185 26).toInt = (pf 26).toInt from by first | exact oz_1687f4cc65 e168 e195 | omega), (show FrB (pf 13).toInt na ma na158 ma159 from hfb), (show FrW (pf 26).toInt wa wa from hfw), (show VlS ta (tf 6).toInt na158 ma159 v161 (pf 13).toInt (pf185 13).toInt (3 * (bp ta (pf185 11) - bp ta (pf 11))) (200 - (pf 12).toInt) from (VlV.le (st_ret (hi := (pf185 13).toInt) (D := 130) ⟨by first | with_reducible rfl | with_reducible assumption | omega, hf_14_v161, hf_15_v161, ⟨by first | with_reducible rfl | with_reducible assumption | omega, by first | with_reducible rfl | with_reducible assumption | omega⟩, hf_21_v161⟩ (by first | with_reducible rfl | with_reducible assumption | omega) hf_17_v161 (by first | with_reducible rfl | with_reducible assumption | omega) (lo := v161.toInt + 1) (oz_n (W := 0) (by decide) (by first | with_reducible rfl | with_reducible assumption | omega)) (by first | with_reducible rfl | with_reducible assumption | omega)) (by first | with_reducible rfl | with_reducible assumption | omega) (by first | with_reducible rfl | with_reducible assumption | omega) (by first | with_reducible rfl | with_reducible assumption | omega) (by first | with_reducible rfl | with_reducible assumption | omega))), (show FsI (tf 6).toInt (pf185 13).toInt na158 from (FsI.le hfs (by first | with_reducible rfl | with_reducible assumption | omega)))⟩) d_Mpg_byKey_168
      · have nc180 : v177.toInt = (0 : Int) := (i_eq (x := v177) (y := 0)).mp c180
        refine lv_aload_n S.x S.b d_Mpg_byKey_151 rfl (lv_at hl 1 rfl) ?_
        refine px_get S k_Mpg hT hw 0 0 17 (v := .ref (r 17)) rfl rfl rfl (by decide) m10_1 d_Mpg_byKey_152 ?_
        refine lv_iload_n S.x S.b d_Mpg_byKey_155 rfl (lv_at hl 0 rfl) ?_
        refine lv_aload_n S.x S.b d_Mpg_byKey_156 rfl (lv_at hl 1 rfl) ?_
        refine th_calli (ps0 := [wdP cs h r g tf ta pf na ma wa cf ca ef ea xf xa]) (pr := []) (pcs := [wdP cs h r g tf ta (upd pf157 11 z172) na158 ma159 wa cf ca ef ea xf xa]) (As := []) (rest := [.int v161, .ref (r 17)]) (c_S_expression l D cs h r g tf ta cf ca ef ea xf xa (upd pf157 11 z172) na158 ma159 wa  lv (show 0 ≤ z172.toInt from by first | exact oz_9bc226aaf4 tz172 e164 g0 | omega) (show z172.toInt < (tf 6).toInt from by first | exact oz_93bebfa6cb g11 tz172 e164 | omega) (show (tf 6).toInt ≤ 2049 from by first | exact g2 | omega) (show 0 ≤ (pf157 12).toInt from by first | exact oz_f3ebed1ad0 e165 g3 | omega) (show (pf157 12).toInt ≤ 60 from by first | exact oz_a3db38fa3c e165 g4 | omega) (show 0 ≤ (pf157 13).toInt from by first | exact oz_ae613611c0 e163 g5 | omega) (show (pf157 13).toInt ≤ z172.toInt + 20 from by first | exact oz_ba7f4a2393 e163 tz172 g6 e164 | omega) (show 0 ≤ (pf157 26).toInt from by first | exact oz_f3ebed1ad0 e168 g7 | omega) (show (pf157 26).toInt ≤ (pf157 12).toInt from by first | exact oz_508dc9c651 e165 e168 g8 | omega) (show 61 ≤ (pf157 12).toInt + (lv : Int) from by first | exact oz_13a538c620 g9 e165 | omega) (show lv ≤ 61 from by first | exact g10 | omega) hlf htk (FsI.le (N' := (pf157 13).toInt) hfs (by first | with_reducible rfl | with_reducible assumption | omega))) S hT hw (oX_call (P := (fun A U H => (oN A U H) ∧ (oP A g U H))) (pr := []) (oG_and oG_N oG_P) hw hA ⟨hN, hP⟩) (px_recv hT hw 0 0 rfl rfl rfl) m12_38 m12_35 m12_37 ms_9_11 m1_21 q_Mpg_expression ⟨show (8 * lv + 20) + 1 ≤ (8 * lv + 27) from by first | with_reducible rfl | with_reducible assumption | omega, show 8 + (7 + 11) + (220 * lv + 720) ≤ (220 * lv + 1240) from by first | with_reducible rfl | with_reducible assumption | omega⟩ hl.1 rfl (Nat.le_of_ble_eq_true rfl) d_Mpg_byKey_157 ⟨Nat.le_of_ble_eq_true rfl, Nat.le_of_ble_eq_true rfl⟩ hne hlk hA hAe (fun o t h => Or.inr h) ?_ (fun v205 p204 H locs hp204 hw => ?_)
        · exact fun p1 H1 locs1 hp hw => by obtain ⟨pq1, pq2, pq3, pq4, rfl, hq1, hq2⟩ := hp; exact ⟨_, ⟨pq1, pq2, pq3, pq4, rfl, hq1, hq2⟩, hw⟩
        obtain ⟨pf200, na201, ma202, wa203, rfl, e206, e207, e208, e209, e210, e211, e212, e213, e214, e215, e216, e217, e218⟩ := hp204
        have e206 : z172.toInt + 1 ≤ (pf200 11).toInt := e206
        have e207 : (pf200 11).toInt < (tf 6).toInt := e207
        have e208 : (pf157 13).toInt + 1 ≤ (pf200 13).toInt := e208
        have e209 : (pf200 13).toInt - (pf157 13).toInt ≤ (pf200 11).toInt - z172.toInt := e209
        have e210 : bp ta z172 + 1 ≤ bp ta (pf200 11) := e210
        have e211 : (pf200 12).toInt = (pf157 12).toInt := e211
        have e212 : (pf200 24).toInt = (pf157 24).toInt := e212
        have e213 : (pf200 25).toInt = (pf157 25).toInt := e213
        have e214 : (pf200 26).toInt = (pf157 26).toInt := e214
        have e215 : FrB (pf157 13).toInt na158 ma159 na201 ma202 := e215
        have hf_14_v161 := (fb_n e215 (by first | with_reducible rfl | with_reducible assumption | omega) (by first | with_reducible rfl | with_reducible assumption | omega)).trans hf_14_v161
        have hf_15_v161 := (fb_n e215 (by first | with_reducible rfl | with_reducible assumption | omega) (by first | with_reducible rfl | with_reducible assumption | omega)).trans hf_15_v161
        have hf_17_v161 := (fb_n e215 (by first | with_reducible rfl | with_reducible assumption | omega) (by first | with_reducible rfl | with_reducible assumption | omega)).trans hf_17_v161
        have hf_21_v161 := (fb_n e215 (by first | with_reducible rfl | with_reducible assumption | omega) (by first | with_reducible rfl | with_reducible assumption | omega)).trans hf_21_v161
        have hfb := hfb.tr e215 (by first | with_reducible rfl | with_reducible assumption | omega)
        have e216 : FrW (pf157 26).toInt wa wa203 := e216
        have hfw := hfw.tr e216 (by first | with_reducible rfl | with_reducible assumption | omega)
        have e217 : ExR ta (tf 6).toInt na201 ma202 v205 (pf157 13).toInt (pf200 13).toInt (3 * (bp ta (pf200 11) - bp ta z172)) (pf157 12).toInt := e217
        have ht_v205 := e217
        have hn_ht_v205 := ht_v205.num
        have e218 : FsI (tf 6).toInt (pf200 13).toInt na201 := e218
        have hfs := e218
        have hw : pw D A s.heap H locs [wdP cs h r g tf ta pf200 na201 ma202 wa203 cf ca ef ea xf xa] := hw
        have lv205 := Int32.le_toInt v205
        have uv205 := Int32.toInt_lt v205
        refine px_iast S hT hw 0 13 (n := 2100) (f := (na201 17)) (x := v161) (y := v205) rfl gp_17 (vp_in_iff.mpr (by constructor <;> omega)) d_Mpg_byKey_160 (w' := wdP cs h r g tf ta pf200 (va_up na201 17 (upd (na201 17) v161.toNatClampNeg v205)) ma202 wa203 cf ca ef ea xf xa) (ps' := [wdP cs h r g tf ta pf200 (va_up na201 17 (upd (na201 17) v161.toNatClampNeg v205)) ma202 wa203 cf ca ef ea xf xa]) sp_17 rfl (fun H locs hw => ?_)
        obtain ⟨na219, hu_na219⟩ : ∃ y : Nat → Nat → Int32, y = va_up na201 17 (upd (na201 17) v161.toNatClampNeg v205) := ⟨_, rfl⟩
        have hw : pw D A s.heap _ _ [wdP cs h r g tf ta pf200 na219 ma202 wa203 cf ca ef ea xf xa] := (by rw [hu_na219]; exact hw)
        obtain ⟨ht_v205, hdq_v205⟩ := ht_v205.ag (ag_n hu_na219 (by first | with_reducible rfl | with_reducible assumption | omega) (by first | with_reducible rfl | with_reducible assumption | omega)) (by first | with_reducible rfl | with_reducible assumption | omega)
        have hn_ht_v205 := ht_v205.num
        have hf_14_v161 := (fl_n hu_na219 (by decide)).trans hf_14_v161
        have hf_15_v161 := (fl_n hu_na219 (by decide)).trans hf_15_v161
        have hf_21_v161 := (fl_n hu_na219 (by decide)).trans hf_21_v161
        have hf_17_v161 : na219 17 v161.toNatClampNeg = v205 := (by rw [hu_na219, va_up_s, pk_us])
        have hfs : FsI _ _ na219 := (by rw [hu_na219]; exact FsI.un hfs (by decide))
        have hfb : FrB (pf 13).toInt na ma na219 ma202 := (by rw [hu_na219]; exact FrB.un hfb (by first | with_reducible rfl | with_reducible assumption | omega) (by first | with_reducible rfl | with_reducible assumption | omega))
        refine lv_aload_n S.x S.b d_Mpg_byKey_161 rfl (lv_at hl 1 rfl) ?_
        obtain ⟨sk220, hRsk220, st221, sb222, hSsk220⟩ := oP_lit hP (k := 101) (tx := ";") (n := 1) (List.mem_of_getElem? (i := 42) rfl)
        refine va_ldcS S.x S.b S.own hRsk220 d_Mpg_byKey_162 ?_
        refine th_callv (ps0 := [wdP cs h r g tf ta pf na ma wa cf ca ef ea xf xa]) (pr := []) (pcs := [wdP cs h r g tf ta pf200 na219 ma202 wa203 cf ca ef ea xf xa]) (As := [.ref sk220]) (rest := []) (c_mp_take l D cs sk220 1 h r g tf ta na219 ma202 wa203 cf ca ef ea xf xa pf200   (show 0 ≤ (pf200 11).toInt from by first | exact oz_5ec5cff5c7 e206 tz172 g0 e164 | omega) (show (pf200 11).toInt < (tf 6).toInt from by first | exact e207 | omega) (show (tf 6).toInt ≤ 2049 from by first | exact g2 | omega) (show 1 ≤ 100 from by first | decide | omega) hlf htk) S hT hw (oX_call (P := (fun A U H => (oN A U H) ∧ (oP A g U H) ∧ (StS A sk220 1 U H))) (pr := []) (oG_and oG_N (oG_and oG_P oG_Q)) hw hA ⟨hN, hP, ⟨_, _, hSsk220⟩⟩) (px_recv hT hw 0 0 rfl rfl rfl) m12_57 m12_54 m12_56 ms_9_15 m1_21 q_Mpg_take ⟨show 7 + 1 ≤ (8 * lv + 27) from by first | with_reducible rfl | with_reducible assumption | omega, show 8 + (2 + 11) + 230 ≤ (220 * lv + 1240) from by first | with_reducible rfl | with_reducible assumption | omega⟩ hl.1 rfl (Nat.le_of_ble_eq_true rfl) d_Mpg_byKey_164 ⟨Nat.le_of_ble_eq_true rfl, Nat.le_of_ble_eq_true rfl⟩ hne hlk hA hAe (fun o t h => Or.inr h) ?_ (fun p225 H locs hp225 hw => ?_)
        · exact fun p1 H1 locs1 hp hw => by obtain ⟨pq1, pq2, pq3, pq4, rfl, hq1, hq2⟩ := hp; exact ⟨_, ⟨pq1, pq2, pq3, pq4, rfl, hq1, hq2⟩, hw⟩
        obtain ⟨pf224, rfl, e227, e228, e229, e230, e231, e232, e233, e234⟩ := hp225
        have e227 : (pf224 11).toInt = (pf200 11).toInt + 1 := e227
        have e228 : (pf224 11).toInt < (tf 6).toInt := e228
        have e229 : bp ta (pf200 11) + 1 ≤ bp ta (pf224 11) := e229
        have e230 : (pf224 12).toInt = (pf200 12).toInt := e230
        have e231 : (pf224 13).toInt = (pf200 13).toInt := e231
        have e232 : (pf224 24).toInt = (pf200 24).toInt := e232
        have e233 : (pf224 25).toInt = (pf200 25).toInt := e233
        have e234 : (pf224 26).toInt = (pf200 26).toInt := e234
        have hw : pw D A s.heap H locs [wdP cs h r g tf ta pf224 na219 ma202 wa203 cf ca ef ea xf xa] := hw
        refine lv_iload_n S.x S.b d_Mpg_byKey_167 rfl (lv_at hl 0 rfl) ?_
        exact th_iret (v := v161) S hr rfl hlk hAe hw (⟨pf224, na219, ma202, wa203, rfl, (show (pf 11).toInt + 1 ≤ (pf224 11).toInt from by first | exact oz_e69ebdcefb e164 e227 tz172 e206 | omega), (show (pf224 11).toInt < (tf 6).toInt from by first | exact e228 | omega), (show (pf 13).toInt + 1 ≤ (pf224 13).toInt from by first | exact oz_b67d4358c9 e163 e231 e208 | omega), (show (pf224 13).toInt - (pf 13).toInt ≤ (pf224 11).toInt - (pf 11).toInt from by first | exact oz_85dfe7ce3a e163 e164 e227 e231 tz172 e209 | omega), (show bp ta (pf 11) + 1 ≤ bp ta (pf224 11) from by first | with_reducible rfl | with_reducible assumption | omega), (show (pf224 12).toInt = (pf 12).toInt from by first | exact oz_e13fc83238 e165 e230 e211 | omega), (show (pf224 24).toInt = (pf 24).toInt from by first | exact oz_e13fc83238 e166 e232 e212 | omega), (show (pf224 25).toInt = (pf 25).toInt from by first | exact oz_e13fc83238 e167 e233 e213 | omega), (show (pf224 26).toInt = (pf 26).toInt from by first | exact oz_e13fc83238 e168 e234 e214 | omega), (show FrB (pf 13).toInt na ma na219 ma202 from hfb), (show FrW (pf 26).toInt wa wa203 from hfw), (show VlS ta (tf 6).toInt na219 ma202 v161 (pf 13).toInt (pf224 13).toInt (3 * (bp ta (pf224 11) - bp ta (pf 11))) (200 - (pf 12).toInt) from (VlV.le (st_ret (hi := (pf224 13).toInt) (D := 130) ⟨by first | with_reducible rfl | with_reducible assumption | omega, hf_14_v161, hf_15_v161, ⟨by first | with_reducible rfl | with_reducible assumption | omega, by first | with_reducible rfl | with_reducible assumption | omega⟩, hf_21_v161⟩ (by first | with_reducible rfl | with_reducible assumption | omega) hf_17_v161 (by first | with_reducible rfl | with_reducible assumption | omega) (lo := v161.toInt + 1) (oz_v fe_ok (VlV.le (exr_vl ht_v205 (by first | with_reducible rfl | with_reducible assumption | omega)) (by first | with_reducible rfl | with_reducible assumption | omega) (by first | with_reducible rfl | with_reducible assumption | omega) (Int.le_refl _) (by first | with_reducible rfl | with_reducible assumption | omega))) (by first | with_reducible rfl | with_reducible assumption | omega)) (by first | with_reducible rfl | with_reducible assumption | omega) (by first | with_reducible rfl | with_reducible assumption | omega) (by first | with_reducible rfl | with_reducible assumption | omega) (by first | with_reducible rfl | with_reducible assumption | omega))), (show FsI (tf 6).toInt (pf224 13).toInt na219 from (FsI.le hfs (by first | with_reducible rfl | with_reducible assumption | omega)))⟩) d_Mpg_byKey_168
set_option maxHeartbeats 4000000 in
set_option maxRecDepth 100000 in
theorem c_mp_statement (l : Launch) (D : va_G) (cs : Nat → ClassId) (h : Nat) (r : Nat → Nat) (g : Nat → Nat → Option Nat) (tf : Nat → Int32) (ta : Nat → Nat → Int32) (cf : Nat → Int32) (ca : Nat → Nat → Int32) (ef : Nat → Int32) (ea : Nat → Nat → Int32) (xf : Nat → Int32) (xa : Nat → Nat → Int32) (pf : Nat → Int32) (na : Nat → Nat → Int32) (ma : Nat → Nat → Int32) (wa : Nat → Nat → Int32) (lv : Nat) (g0 : 0 ≤ (pf 11).toInt) (g1 : (pf 11).toInt < (tf 6).toInt) (g2 : (tf 6).toInt ≤ 2049) (g3 : 0 ≤ (pf 12).toInt) (g4 : (pf 12).toInt ≤ 60) (g5 : 0 ≤ (pf 13).toInt) (g6 : (pf 13).toInt ≤ (pf 11).toInt + 10) (g7 : 0 ≤ (pf 26).toInt) (g8 : (pf 26).toInt ≤ (pf 12).toInt) (g9 : 61 ≤ (pf 12).toInt + (lv : Int)) (g10 : lv ≤ 61) (hlf : l.flags = pinnedFlags ++ [noTraceFlag]) (htk : TkI tf ta) (hfs : FsI (tf 6).toInt (pf 13).toInt na) (hLT : LvT l D cs lv) : ThI l y_Mpg_statement b_Mpg_statement 2 (.int) D cs (8 * lv + 28) (220 * lv + 1280) [.ref h] [wdP cs h r g tf ta pf na ma wa cf ca ef ea xf xa] (oX (fun A U H => (oN A U H) ∧ (oP A g U H)) [wdP cs h r g tf ta pf na ma wa cf ca ef ea xf xa]) "java/lang/IllegalArgumentException" (fun v ps => ∃ (pf' : Nat → Int32) (na' : Nat → Nat → Int32) (ma' : Nat → Nat → Int32) (wa' : Nat → Nat → Int32), (ps = [wdP cs h r g tf ta pf' na' ma' wa' cf ca ef ea xf xa]) ∧ ((pf 11).toInt + 1 ≤ (pf' 11).toInt) ∧ ((pf' 11).toInt < (tf 6).toInt) ∧ ((pf 13).toInt + 1 ≤ (pf' 13).toInt) ∧ ((pf' 13).toInt - (pf 13).toInt ≤ (pf' 11).toInt - (pf 11).toInt) ∧ (bp ta (pf 11) + 1 ≤ bp ta (pf' 11)) ∧ ((pf' 12).toInt = (pf 12).toInt) ∧ ((pf' 24).toInt = (pf 24).toInt) ∧ ((pf' 25).toInt = (pf 25).toInt) ∧ ((pf' 26).toInt = (pf 26).toInt) ∧ (FrB (pf 13).toInt na ma na' ma') ∧ (FrW (pf 26).toInt wa wa') ∧ (VlS ta (tf 6).toInt na' ma' v (pf 13).toInt (pf' 13).toInt (3 * (bp ta (pf' 11) - bp ta (pf 11))) (200 - (pf 12).toInt)) ∧ (FsI (tf 6).toInt (pf' 13).toInt na')) (fun ps => ∃ (pf' : Nat → Int32) (na' : Nat → Nat → Int32) (ma' : Nat → Nat → Int32) (wa' : Nat → Nat → Int32), ps = [wdP cs h r g tf ta pf' na' ma' wa' cf ca ef ea xf xa] ∧ 0 ≤ (pf' 11).toInt ∧ (pf' 11).toInt + 1 ≤ (tf 6).toInt) := by
  refine th_enter (by decide) (Nat.le_of_ble_eq_true rfl) ?_
  intro p e s m below meth c A ls hAe S hr hlk hnm hA hT hX hw hl hne hadm
  have hl : lv_has ls 2 [(0, .ref h)] := hl
  have cst1 : (1 : Int32).toInt = 1 := rfl
  have cst2 : (2 : Int32).toInt = 2 := rfl
  have cst21 : (21 : Int32).toInt = 21 := rfl
  have cst22 : (22 : Int32).toInt = 22 := rfl
  have hX : (fun A U H => (oN A U H) ∧ (oP A g U H)) A s s.heap := by rw [hAe]; exact hX
  obtain ⟨hN, hP⟩ := hX
  have hZ := hP.1
  have hF0 := hP.2.1
  have hfb : FrB (pf 13).toInt na ma na ma := FrB.rf
  have hfw : FrW (pf 26).toInt wa wa := FrW.rf
  refine lv_aload_n S.x S.b d_Mpg_statement_0 rfl (lv_at hl 0 rfl) ?_
  obtain ⟨sk1, hRsk1, st2, sb3, hSsk1⟩ := oP_lit hP (k := 91) (tx := "{") (n := 1) (List.mem_of_getElem? (i := 37) rfl)
  refine va_ldcS S.x S.b S.own hRsk1 d_Mpg_statement_1 ?_
  refine px_calli (pr := []) (px_runV (As := [.ref sk1]) (rest := []) S (c_mp_is l D cs sk1 1 h r g tf ta pf na ma wa cf ca ef ea xf xa   (show 0 ≤ (pf 11).toInt from by first | exact g0 | omega) (show (pf 11).toInt < (tf 6).toInt from by first | exact g1 | omega) (show (tf 6).toInt ≤ 2049 from by first | exact g2 | omega) (show 1 ≤ 100 from by first | decide | omega) htk _) hT (pr := []) (pcs := [wdP cs h r g tf ta pf na ma wa cf ca ef ea xf xa]) hw (oX_call (P := (fun A U H => (oP A g U H) ∧ (StS A sk1 1 U H))) (pr := []) (oG_and oG_P oG_Q) hw hA ⟨hP, ⟨_, _, hSsk1⟩⟩) (px_recv hT hw 0 0 rfl rfl rfl) m11_217 m11_214 m11_216 ms_8_14 m1_21 q_Mpg_is ⟨show 3 + 1 ≤ (8 * lv + 28) from by first | with_reducible rfl | with_reducible assumption | omega, show 8 + (2 + 11) + 120 ≤ (220 * lv + 1280) from by first | with_reducible rfl | with_reducible assumption | omega⟩ hl.1 rfl (Nat.le_of_ble_eq_true rfl) d_Mpg_statement_3 ⟨Nat.le_of_ble_eq_true rfl, Nat.le_of_ble_eq_true rfl⟩) hw hA (fun v5 p4 H locs hp4 hw => ?_)
  obtain ⟨rfl, e6, e7⟩ := hp4
  have e6 := z_rng e6
  have e7 : v5.toInt = 1 → (pf 11).toInt + 1 < (tf 6).toInt ∧ so ta (pf 11) = 5 := e7
  have hw : pw D A s.heap H locs [wdP cs h r g tf ta pf na ma wa cf ca ef ea xf xa] := hw
  have lv5 := Int32.le_toInt v5
  have uv5 := Int32.toInt_lt v5
  refine lv_if_eq (tgt := 14) S.x S.b d_Mpg_statement_6 (by decide) (fun c8 => ?_) (fun c8 => ?_)
  · have nc8 : v5.toInt = (0 : Int) := (i_eq (x := v5) (y := 0)).mp c8
    refine lv_aload_n S.x S.b d_Mpg_statement_14 rfl (lv_at hl 0 rfl) ?_
    obtain ⟨sk9, hRsk9, st10, sb11, hSsk9⟩ := oP_lit hP (k := 101) (tx := ";") (n := 1) (List.mem_of_getElem? (i := 42) rfl)
    refine va_ldcS S.x S.b S.own hRsk9 d_Mpg_statement_15 ?_
    refine px_calli (pr := []) (px_runV (As := [.ref sk9]) (rest := []) S (c_mp_is l D cs sk9 1 h r g tf ta pf na ma wa cf ca ef ea xf xa   (show 0 ≤ (pf 11).toInt from by first | exact g0 | omega) (show (pf 11).toInt < (tf 6).toInt from by first | exact g1 | omega) (show (tf 6).toInt ≤ 2049 from by first | exact g2 | omega) (show 1 ≤ 100 from by first | decide | omega) htk _) hT (pr := []) (pcs := [wdP cs h r g tf ta pf na ma wa cf ca ef ea xf xa]) hw (oX_call (P := (fun A U H => (oP A g U H) ∧ (StS A sk9 1 U H))) (pr := []) (oG_and oG_P oG_Q) hw hA ⟨hP, ⟨_, _, hSsk9⟩⟩) (px_recv hT hw 0 0 rfl rfl rfl) m11_217 m11_214 m11_216 ms_8_14 m1_21 q_Mpg_is ⟨show 3 + 1 ≤ (8 * lv + 28) from by first | with_reducible rfl | with_reducible assumption | omega, show 8 + (2 + 11) + 120 ≤ (220 * lv + 1280) from by first | with_reducible rfl | with_reducible assumption | omega⟩ hl.1 rfl (Nat.le_of_ble_eq_true rfl) d_Mpg_statement_17 ⟨Nat.le_of_ble_eq_true rfl, Nat.le_of_ble_eq_true rfl⟩) hw hA (fun v13 p12 H locs hp12 hw => ?_)
    obtain ⟨rfl, e14, e15⟩ := hp12
    have e14 := z_rng e14
    have e15 : v13.toInt = 1 → (pf 11).toInt + 1 < (tf 6).toInt ∧ so ta (pf 11) = 5 := e15
    have hw : pw D A s.heap H locs [wdP cs h r g tf ta pf na ma wa cf ca ef ea xf xa] := hw
    have lv13 := Int32.le_toInt v13
    have uv13 := Int32.toInt_lt v13
    refine lv_if_eq (tgt := 46) S.x S.b d_Mpg_statement_20 (by decide) (fun c16 => ?_) (fun c16 => ?_)
    · have nc16 : v13.toInt = (0 : Int) := (i_eq (x := v13) (y := 0)).mp c16
      refine lv_aload_n S.x S.b d_Mpg_statement_46 rfl (lv_at hl 0 rfl) ?_
      refine px_calli (pr := []) (px_runV (As := []) (rest := []) S (c_mp_isType l D cs h r g tf ta pf na ma wa cf ca ef ea xf xa   (show 0 ≤ (pf 11).toInt from by first | exact g0 | omega) (show (pf 11).toInt < (tf 6).toInt from by first | exact g1 | omega) (show (tf 6).toInt ≤ 2049 from by first | exact g2 | omega) htk _) hT (pr := []) (pcs := [wdP cs h r g tf ta pf na ma wa cf ca ef ea xf xa]) hw px_X.tt (px_recv hT hw 0 0 rfl rfl rfl) m12_85 m12_82 m12_84 ms_10_6 m1_21 q_Mpg_isType ⟨show 1 + 1 ≤ (8 * lv + 28) from by first | with_reducible rfl | with_reducible assumption | omega, show 8 + (1 + 11) + 40 ≤ (220 * lv + 1280) from by first | with_reducible rfl | with_reducible assumption | omega⟩ hl.1 rfl (Nat.le_of_ble_eq_true rfl) d_Mpg_statement_47 ⟨Nat.le_of_ble_eq_true rfl, Nat.le_of_ble_eq_true rfl⟩) hw hA (fun v18 p17 H locs hp17 hw => ?_)
      obtain ⟨rfl, e19, e20⟩ := hp17
      have e19 := z_rng e19
      have e20 : v18.toInt = 1 → (pf 11).toInt + 1 < (tf 6).toInt ∧ so ta (pf 11) = 2 ∧ 0 ≤ wh ta (pf 11) ∧ wh ta (pf 11) ≤ 1 := e20
      have hw : pw D A s.heap H locs [wdP cs h r g tf ta pf na ma wa cf ca ef ea xf xa] := hw
      have lv18 := Int32.le_toInt v18
      have uv18 := Int32.toInt_lt v18
      refine lv_if_eq (tgt := 58) S.x S.b d_Mpg_statement_50 (by decide) (fun c21 => ?_) (fun c21 => ?_)
      · have nc21 : v18.toInt = (0 : Int) := (i_eq (x := v18) (y := 0)).mp c21
        refine lv_aload_n S.x S.b d_Mpg_statement_58 rfl (lv_at hl 0 rfl) ?_
        refine px_get S k_Mpg hT hw 0 0 9 (v := .ref (r 9)) rfl rfl rfl (by decide) m9_233 d_Mpg_statement_59 ?_
        refine lv_aload_n S.x S.b d_Mpg_statement_62 rfl (lv_at hl 0 rfl) ?_
        refine px_get S k_Mpg hT hw 0 0 11 (v := .int (pf 11)) rfl rfl rfl (by decide) m9_235 d_Mpg_statement_63 ?_
        refine px_bald S hT hw 0 8 (n := 2060) (f := (ta 9)) rfl gp_9 (x := (pf 11)) (vp_in_iff.mpr (by first | exact oz_846323bf3a g0 g1 g2 | (constructor <;> omega))) d_Mpg_statement_66 ?_
        refine lv_topi (fun z22 ez22 => ?_)
        have lz22 := Int32.le_toInt z22
        have uz22 := Int32.toInt_lt z22
        have rz22 := tk_s htk (x := (pf 11)) (by first | with_reducible rfl | with_reducible assumption | omega) (by first | with_reducible rfl | with_reducible assumption | omega) ez22
        refine lv_iconst (v := 2) S.x S.b d_Mpg_statement_67 (by decide) ?_
        refine lv_icmp_ne (tgt := 85) S.x S.b d_Mpg_statement_68 (by decide) (fun c23 => ?_) (fun c23 => ?_)
        · have nc23 : ¬ z22.toInt = (2 : Int) := mt (i_eq (x := z22) (y := 2)).mpr c23
          refine lv_aload_n S.x S.b d_Mpg_statement_85 rfl (lv_at hl 0 rfl) ?_
          refine lv_bipush (v := 22) S.x S.b d_Mpg_statement_86 (by decide) ?_
          refine lv_aload_n S.x S.b d_Mpg_statement_88 rfl (lv_at hl 0 rfl) ?_
          refine px_get S k_Mpg hT hw 0 0 11 (v := .int (pf 11)) rfl rfl rfl (by decide) m9_235 d_Mpg_statement_89 ?_
          refine px_calli (pr := []) (px_runV (As := [.int 22, .int (pf 11)]) (rest := []) S (c_mp_make l D cs h r g tf ta wa cf ca ef ea xf xa pf na ma 22 (pf 11)  (show 0 ≤ (pf 13).toInt from by first | exact g5 | omega) (show (pf 13).toInt < 2100 from by first | exact oz_3cbdbee99c g6 g1 g2 | omega) _) hT (pr := []) (pcs := [wdP cs h r g tf ta pf na ma wa cf ca ef ea xf xa]) hw px_X.tt (px_recv hT hw 0 0 rfl rfl rfl) m11_209 m11_206 m11_208 ms_8_12 m1_21 q_Mpg_make ⟨show 0 + 1 ≤ (8 * lv + 28) from by first | with_reducible rfl | with_reducible assumption | omega, show 8 + (3 + 11) + 0 ≤ (220 * lv + 1280) from by first | with_reducible rfl | with_reducible assumption | omega⟩ hl.1 rfl (Nat.le_of_ble_eq_true rfl) d_Mpg_statement_92 ⟨Nat.le_of_ble_eq_true rfl, Nat.le_of_ble_eq_true rfl⟩) hw hA (fun v31 p30 H locs hp30 hw => ?_)
          obtain ⟨pf27, na28, ma29, rfl, e32, e33, e34, e35, e36, e37, e38, e39⟩ := hp30
          have e32 : v31.toInt = (pf 13).toInt := e32
          have e33 : (pf27 13).toInt = (pf 13).toInt + 1 := e33
          have e34 : (pf27 11).toInt = (pf 11).toInt := e34
          have e35 : (pf27 12).toInt = (pf 12).toInt := e35
          have e36 : (pf27 24).toInt = (pf 24).toInt := e36
          have e37 : (pf27 25).toInt = (pf 25).toInt := e37
          have e38 : (pf27 26).toInt = (pf 26).toInt := e38
          have e39 : MkN na ma na28 ma29 v31 (22 : Int32) (pf 11) := e39
          obtain ⟨qb401, qb402, qb403, qb404⟩ := tk_eq (ta := ta) (x := (pf27 11)) (y := (pf 11)) (by first | with_reducible rfl | with_reducible assumption | omega)
          have hmk_v31 := e39
          have hfm_v31 := MkN.frb (b := v31.toInt) hmk_v31 (by first | with_reducible rfl | with_reducible assumption | omega) (by first | with_reducible rfl | with_reducible assumption | omega)
          have hfs := FsI.mk hfs hmk_v31 (by first | with_reducible rfl | with_reducible assumption | omega) (by first | with_reducible rfl | with_reducible assumption | omega) (by first | with_reducible rfl | with_reducible assumption | omega) (by first | with_reducible rfl | with_reducible assumption | omega)
          have hfb := hfb.tr hfm_v31 (by first | with_reducible rfl | with_reducible assumption | omega)
          have hf_14_v31 := hmk_v31.2.1 (by decide) (by decide)
          have hf_15_v31 := hmk_v31.2.2.1
          have hf_17_v31 := hmk_v31.2.2.2.2.1
          have hf_21_v31 := hmk_v31.2.2.2.2.2.2.2.2.1
          clear hmk_v31 hfm_v31
          have hw : pw D A s.heap H locs [wdP cs h r g tf ta pf27 na28 ma29 wa cf ca ef ea xf xa] := hw
          have lv31 := Int32.le_toInt v31
          have uv31 := Int32.toInt_lt v31
          refine lv_istore_n (lv' := [(1, .int v31), (0, .ref h)]) S.x S.b d_Mpg_statement_95 rfl hl (by decide) rfl (fun ls hl => ?_)
          refine lv_aload_n S.x S.b d_Mpg_statement_96 rfl (lv_at hl 1 rfl) ?_
          refine px_get S k_Mpg hT hw 0 0 17 (v := .ref (r 17)) rfl rfl rfl (by decide) m10_1 d_Mpg_statement_97 ?_
          refine lv_iload_n S.x S.b d_Mpg_statement_100 rfl (lv_at hl 0 rfl) ?_
          refine lv_aload_n S.x S.b d_Mpg_statement_101 rfl (lv_at hl 1 rfl) ?_
          refine th_calli (ps0 := [wdP cs h r g tf ta pf na ma wa cf ca ef ea xf xa]) (pr := []) (pcs := [wdP cs h r g tf ta pf27 na28 ma29 wa cf ca ef ea xf xa]) (As := []) (rest := [.int v31, .ref (r 17)]) (c_S_expression l D cs h r g tf ta cf ca ef ea xf xa pf27 na28 ma29 wa  lv (show 0 ≤ (pf27 11).toInt from by first | exact oz_f3ebed1ad0 e34 g0 | omega) (show (pf27 11).toInt < (tf 6).toInt from by first | exact oz_5d2fbac15b g1 e34 | omega) (show (tf 6).toInt ≤ 2049 from by first | exact g2 | omega) (show 0 ≤ (pf27 12).toInt from by first | exact oz_f3ebed1ad0 e35 g3 | omega) (show (pf27 12).toInt ≤ 60 from by first | exact oz_a3db38fa3c e35 g4 | omega) (show 0 ≤ (pf27 13).toInt from by first | exact oz_ae613611c0 e33 g5 | omega) (show (pf27 13).toInt ≤ (pf27 11).toInt + 20 from by first | exact oz_45f6e2d8b9 e33 e34 g6 | omega) (show 0 ≤ (pf27 26).toInt from by first | exact oz_f3ebed1ad0 e38 g7 | omega) (show (pf27 26).toInt ≤ (pf27 12).toInt from by first | exact oz_508dc9c651 e35 e38 g8 | omega) (show 61 ≤ (pf27 12).toInt + (lv : Int) from by first | exact oz_13a538c620 g9 e35 | omega) (show lv ≤ 61 from by first | exact g10 | omega) hlf htk (FsI.le (N' := (pf27 13).toInt) hfs (by first | with_reducible rfl | with_reducible assumption | omega))) S hT hw (oX_call (P := (fun A U H => (oN A U H) ∧ (oP A g U H))) (pr := []) (oG_and oG_N oG_P) hw hA ⟨hN, hP⟩) (px_recv hT hw 0 0 rfl rfl rfl) m12_38 m12_35 m12_37 ms_9_11 m1_21 q_Mpg_expression ⟨show (8 * lv + 20) + 1 ≤ (8 * lv + 28) from by first | with_reducible rfl | with_reducible assumption | omega, show 8 + (7 + 11) + (220 * lv + 720) ≤ (220 * lv + 1280) from by first | with_reducible rfl | with_reducible assumption | omega⟩ hl.1 rfl (Nat.le_of_ble_eq_true rfl) d_Mpg_statement_102 ⟨Nat.le_of_ble_eq_true rfl, Nat.le_of_ble_eq_true rfl⟩ hne hlk hA hAe (fun o t h => Or.inr h) ?_ (fun v50 p49 H locs hp49 hw => ?_)
          · exact fun p1 H1 locs1 hp hw => by obtain ⟨pq1, pq2, pq3, pq4, rfl, hq1, hq2⟩ := hp; exact ⟨_, ⟨pq1, pq2, pq3, pq4, rfl, hq1, hq2⟩, hw⟩
          obtain ⟨pf45, na46, ma47, wa48, rfl, e51, e52, e53, e54, e55, e56, e57, e58, e59, e60, e61, e62, e63⟩ := hp49
          have e51 : (pf27 11).toInt + 1 ≤ (pf45 11).toInt := e51
          have e52 : (pf45 11).toInt < (tf 6).toInt := e52
          have e53 : (pf27 13).toInt + 1 ≤ (pf45 13).toInt := e53
          have e54 : (pf45 13).toInt - (pf27 13).toInt ≤ (pf45 11).toInt - (pf27 11).toInt := e54
          have e55 : bp ta (pf27 11) + 1 ≤ bp ta (pf45 11) := e55
          have e56 : (pf45 12).toInt = (pf27 12).toInt := e56
          have e57 : (pf45 24).toInt = (pf27 24).toInt := e57
          have e58 : (pf45 25).toInt = (pf27 25).toInt := e58
          have e59 : (pf45 26).toInt = (pf27 26).toInt := e59
          have e60 : FrB (pf27 13).toInt na28 ma29 na46 ma47 := e60
          have hf_14_v31 := (fb_n e60 (by first | with_reducible rfl | with_reducible assumption | omega) (by first | with_reducible rfl | with_reducible assumption | omega)).trans hf_14_v31
          have hf_15_v31 := (fb_n e60 (by first | with_reducible rfl | with_reducible assumption | omega) (by first | with_reducible rfl | with_reducible assumption | omega)).trans hf_15_v31
          have hf_17_v31 := (fb_n e60 (by first | with_reducible rfl | with_reducible assumption | omega) (by first | with_reducible rfl | with_reducible assumption | omega)).trans hf_17_v31
          have hf_21_v31 := (fb_n e60 (by first | with_reducible rfl | with_reducible assumption | omega) (by first | with_reducible rfl | with_reducible assumption | omega)).trans hf_21_v31
          have hfb := hfb.tr e60 (by first | with_reducible rfl | with_reducible assumption | omega)
          have e61 : FrW (pf27 26).toInt wa wa48 := e61
          have hfw := hfw.tr e61 (by first | with_reducible rfl | with_reducible assumption | omega)
          have e62 : ExR ta (tf 6).toInt na46 ma47 v50 (pf27 13).toInt (pf45 13).toInt (3 * (bp ta (pf45 11) - bp ta (pf27 11))) (pf27 12).toInt := e62
          have ht_v50 := e62
          have hn_ht_v50 := ht_v50.num
          have e63 : FsI (tf 6).toInt (pf45 13).toInt na46 := e63
          have hfs := e63
          have hw : pw D A s.heap H locs [wdP cs h r g tf ta pf45 na46 ma47 wa48 cf ca ef ea xf xa] := hw
          have lv50 := Int32.le_toInt v50
          have uv50 := Int32.toInt_lt v50
          refine px_iast S hT hw 0 13 (n := 2100) (f := (na46 17)) (x := v31) (y := v50) rfl gp_17 (vp_in_iff.mpr (by constructor <;> omega)) d_Mpg_statement_105 (w' := wdP cs h r g tf ta pf45 (va_up na46 17 (upd (na46 17) v31.toNatClampNeg v50)) ma47 wa48 cf ca ef ea xf xa) (ps' := [wdP cs h r g tf ta pf45 (va_up na46 17 (upd (na46 17) v31.toNatClampNeg v50)) ma47 wa48 cf ca ef ea xf xa]) sp_17 rfl (fun H locs hw => ?_)
          obtain ⟨na64, hu_na64⟩ : ∃ y : Nat → Nat → Int32, y = va_up na46 17 (upd (na46 17) v31.toNatClampNeg v50) := ⟨_, rfl⟩
          have hw : pw D A s.heap _ _ [wdP cs h r g tf ta pf45 na64 ma47 wa48 cf ca ef ea xf xa] := (by rw [hu_na64]; exact hw)
          obtain ⟨ht_v50, hdq_v50⟩ := ht_v50.ag (ag_n hu_na64 (by first | with_reducible rfl | with_reducible assumption | omega) (by first | with_reducible rfl | with_reducible assumption | omega)) (by first | with_reducible rfl | with_reducible assumption | omega)
          have hn_ht_v50 := ht_v50.num
          have hf_14_v31 := (fl_n hu_na64 (by decide)).trans hf_14_v31
          have hf_15_v31 := (fl_n hu_na64 (by decide)).trans hf_15_v31
          have hf_21_v31 := (fl_n hu_na64 (by decide)).trans hf_21_v31
          have hf_17_v31 : na64 17 v31.toNatClampNeg = v50 := (by rw [hu_na64, va_up_s, pk_us])
          have hfs : FsI _ _ na64 := (by rw [hu_na64]; exact FsI.un hfs (by decide))
          have hfb : FrB (pf 13).toInt na ma na64 ma47 := (by rw [hu_na64]; exact FrB.un hfb (by first | with_reducible rfl | with_reducible assumption | omega) (by first | with_reducible rfl | with_reducible assumption | omega))
          refine lv_aload_n S.x S.b d_Mpg_statement_106 rfl (lv_at hl 1 rfl) ?_
          obtain ⟨sk65, hRsk65, st66, sb67, hSsk65⟩ := oP_lit hP (k := 101) (tx := ";") (n := 1) (List.mem_of_getElem? (i := 42) rfl)
          refine va_ldcS S.x S.b S.own hRsk65 d_Mpg_statement_107 ?_
          refine th_callv (ps0 := [wdP cs h r g tf ta pf na ma wa cf ca ef ea xf xa]) (pr := []) (pcs := [wdP cs h r g tf ta pf45 na64 ma47 wa48 cf ca ef ea xf xa]) (As := [.ref sk65]) (rest := []) (c_mp_take l D cs sk65 1 h r g tf ta na64 ma47 wa48 cf ca ef ea xf xa pf45   (show 0 ≤ (pf45 11).toInt from by first | exact oz_34a21a1e6d e51 e34 g0 | omega) (show (pf45 11).toInt < (tf 6).toInt from by first | exact e52 | omega) (show (tf 6).toInt ≤ 2049 from by first | exact g2 | omega) (show 1 ≤ 100 from by first | decide | omega) hlf htk) S hT hw (oX_call (P := (fun A U H => (oN A U H) ∧ (oP A g U H) ∧ (StS A sk65 1 U H))) (pr := []) (oG_and oG_N (oG_and oG_P oG_Q)) hw hA ⟨hN, hP, ⟨_, _, hSsk65⟩⟩) (px_recv hT hw 0 0 rfl rfl rfl) m12_57 m12_54 m12_56 ms_9_15 m1_21 q_Mpg_take ⟨show 7 + 1 ≤ (8 * lv + 28) from by first | with_reducible rfl | with_reducible assumption | omega, show 8 + (2 + 11) + 230 ≤ (220 * lv + 1280) from by first | with_reducible rfl | with_reducible assumption | omega⟩ hl.1 rfl (Nat.le_of_ble_eq_true rfl) d_Mpg_statement_109 ⟨Nat.le_of_ble_eq_true rfl, Nat.le_of_ble_eq_true rfl⟩ hne hlk hA hAe (fun o t h => Or.inr h) ?_ (fun p70 H locs hp70 hw => ?_)
          · exact fun p1 H1 locs1 hp hw => by obtain ⟨pq1, pq2, pq3, pq4, rfl, hq1, hq2⟩ := hp; exact ⟨_, ⟨pq1, pq2, pq3, pq4, rfl, hq1, hq2⟩, hw⟩
          obtain ⟨pf69, rfl, e72, e73, e74, e75, e76, e77, e78, e79⟩ := hp70
          have e72 : (pf69 11).toInt = (pf45 11).toInt + 1 := e72
          have e73 : (pf69 11).toInt < (tf 6).toInt := e73
          have e74 : bp ta (pf45 11) + 1 ≤ bp ta (pf69 11) := e74
          have e75 : (pf69 12).toInt = (pf45 12).toInt := e75
          have e76 : (pf69 13).toInt = (pf45 13).toInt := e76
          have e77 : (pf69 24).toInt = (pf45 24).toInt := e77
          have e78 : (pf69 25).toInt = (pf45 25).toInt := e78
          have e79 : (pf69 26).toInt = (pf45 26).toInt := e79
          have hw : pw D A s.heap H locs [wdP cs h r g tf ta pf69 na64 ma47 wa48 cf ca ef ea xf xa] := hw
          refine lv_iload_n S.x S.b d_Mpg_statement_112 rfl (lv_at hl 0 rfl) ?_
          exact th_iret (v := v31) S hr rfl hlk hAe hw (⟨pf69, na64, ma47, wa48, rfl, (show (pf 11).toInt + 1 ≤ (pf69 11).toInt from by first | exact oz_11de97e0a6 e34 e72 e51 | omega), (show (pf69 11).toInt < (tf 6).toInt from by first | exact e73 | omega), (show (pf 13).toInt + 1 ≤ (pf69 13).toInt from by first | exact oz_b67d4358c9 e33 e76 e53 | omega), (show (pf69 13).toInt - (pf 13).toInt ≤ (pf69 11).toInt - (pf 11).toInt from by first | exact oz_94650840cd e33 e34 e72 e76 e54 | omega), (show bp ta (pf 11) + 1 ≤ bp ta (pf69 11) from by first | with_reducible rfl | with_reducible assumption | omega), (show (pf69 12).toInt = (pf 12).toInt from by first | exact oz_e13fc83238 e35 e75 e56 | omega), (show (pf69 24).toInt = (pf 24).toInt from by first | exact oz_e13fc83238 e36 e77 e57 | omega), (show (pf69 25).toInt = (pf 25).toInt from by first | exact oz_e13fc83238 e37 e78 e58 | omega), (show (pf69 26).toInt = (pf 26).toInt from by first | exact oz_e13fc83238 e38 e79 e59 | omega), (show FrB (pf 13).toInt na ma na64 ma47 from hfb), (show FrW (pf 26).toInt wa wa48 from hfw), (show VlS ta (tf 6).toInt na64 ma47 v31 (pf 13).toInt (pf69 13).toInt (3 * (bp ta (pf69 11) - bp ta (pf 11))) (200 - (pf 12).toInt) from (VlV.le (st_expr (hi := (pf69 13).toInt) (D := 130) ⟨by first | with_reducible rfl | with_reducible assumption | omega, hf_14_v31, hf_15_v31, ⟨by first | with_reducible rfl | with_reducible assumption | omega, by first | with_reducible rfl | with_reducible assumption | omega⟩, hf_21_v31⟩ hf_17_v31 (by first | with_reducible rfl | with_reducible assumption | omega) (lo := v31.toInt + 1) (VlV.le (exr_vl ht_v50 (by first | with_reducible rfl | with_reducible assumption | omega)) (by first | with_reducible rfl | with_reducible assumption | omega) (by first | with_reducible rfl | with_reducible assumption | omega) (Int.le_refl _) (by first | with_reducible rfl | with_reducible assumption | omega)) (by first | with_reducible rfl | with_reducible assumption | omega)) (by first | with_reducible rfl | with_reducible assumption | omega) (by first | with_reducible rfl | with_reducible assumption | omega) (by first | with_reducible rfl | with_reducible assumption | omega) (by first | with_reducible rfl | with_reducible assumption | omega))), (show FsI (tf 6).toInt (pf69 13).toInt na64 from (FsI.le hfs (by first | with_reducible rfl | with_reducible assumption | omega)))⟩) d_Mpg_statement_113
        · have nc23 : z22.toInt = (2 : Int) := (i_eq (x := z22) (y := 2)).mp c23
          refine lv_aload_n S.x S.b d_Mpg_statement_71 rfl (lv_at hl 0 rfl) ?_
          refine lv_aload_n S.x S.b d_Mpg_statement_72 rfl (lv_at hl 0 rfl) ?_
          refine px_get S k_Mpg hT hw 0 0 10 (v := .ref (r 10)) rfl rfl rfl (by decide) m9_234 d_Mpg_statement_73 ?_
          refine lv_aload_n S.x S.b d_Mpg_statement_76 rfl (lv_at hl 0 rfl) ?_
          refine px_get S k_Mpg hT hw 0 0 11 (v := .int (pf 11)) rfl rfl rfl (by decide) m9_235 d_Mpg_statement_77 ?_
          refine px_iald S hT hw 0 9 (n := 2060) (f := (ta 10)) rfl gp_10 (x := (pf 11)) (vp_in_iff.mpr (by first | exact oz_846323bf3a g0 g1 g2 | (constructor <;> omega))) d_Mpg_statement_80 ?_
          refine lv_topi (fun z80 ez80 => ?_)
          have lz80 := Int32.le_toInt z80
          have uz80 := Int32.toInt_lt z80
          have rz80 : z80.toInt = wh ta (pf 11) := by rw [ez80]; rfl
          refine th_calli (ps0 := [wdP cs h r g tf ta pf na ma wa cf ca ef ea xf xa]) (pr := []) (pcs := [wdP cs h r g tf ta pf na ma wa cf ca ef ea xf xa]) (As := [.int z80]) (rest := []) (c_mp_byKey l D cs h r g tf ta cf ca ef ea xf xa pf na ma wa z80 lv (show 0 ≤ (pf 11).toInt from by first | exact g0 | omega) (show (pf 11).toInt < (tf 6).toInt from by first | exact g1 | omega) (show (tf 6).toInt ≤ 2049 from by first | exact g2 | omega) (show 0 ≤ (pf 12).toInt from by first | exact g3 | omega) (show (pf 12).toInt ≤ 60 from by first | exact g4 | omega) (show 0 ≤ (pf 13).toInt from by first | exact g5 | omega) (show (pf 13).toInt ≤ (pf 11).toInt + 10 from by first | exact g6 | omega) (show 0 ≤ (pf 26).toInt from by first | exact g7 | omega) (show (pf 26).toInt ≤ (pf 12).toInt from by first | exact g8 | omega) (show 61 ≤ (pf 12).toInt + (lv : Int) from by first | exact g9 | omega) (show lv ≤ 61 from by first | exact g10 | omega) (show (pf 11).toInt + 1 < (tf 6).toInt from by first | with_reducible rfl | with_reducible assumption | omega) hlf htk (FsI.le (N' := (pf 13).toInt) hfs (by first | with_reducible rfl | with_reducible assumption | omega)) hLT) S hT hw (oX_call (P := (fun A U H => (oN A U H) ∧ (oP A g U H))) (pr := []) (oG_and oG_N oG_P) hw hA ⟨hN, hP⟩) (px_recv hT hw 0 0 rfl rfl rfl) m12_121 m12_118 m12_120 ms_10_15 m1_21 q_Mpg_byKey ⟨show (8 * lv + 27) + 1 ≤ (8 * lv + 28) from by first | with_reducible rfl | with_reducible assumption | omega, show 8 + (3 + 11) + (220 * lv + 1240) ≤ (220 * lv + 1280) from by first | with_reducible rfl | with_reducible assumption | omega⟩ hl.1 rfl (Nat.le_of_ble_eq_true rfl) d_Mpg_statement_81 ⟨Nat.le_of_ble_eq_true rfl, Nat.le_of_ble_eq_true rfl⟩ hne hlk hA hAe (fun o t h => Or.inr h) ?_ (fun v90 p89 H locs hp89 hw => ?_)
          · exact fun p1 H1 locs1 hp hw => by obtain ⟨pq1, pq2, pq3, pq4, rfl, hq1, hq2⟩ := hp; exact ⟨_, ⟨pq1, pq2, pq3, pq4, rfl, hq1, hq2⟩, hw⟩
          obtain ⟨pf85, na86, ma87, wa88, rfl, e91, e92, e93, e94, e95, e96, e97, e98, e99, e100, e101, e102, e103⟩ := hp89
          have e91 : (pf 11).toInt + 1 ≤ (pf85 11).toInt := e91
          have e92 : (pf85 11).toInt < (tf 6).toInt := e92
          have e93 : (pf 13).toInt + 1 ≤ (pf85 13).toInt := e93
          have e94 : (pf85 13).toInt - (pf 13).toInt ≤ (pf85 11).toInt - (pf 11).toInt := e94
          have e95 : bp ta (pf 11) + 1 ≤ bp ta (pf85 11) := e95
          have e96 : (pf85 12).toInt = (pf 12).toInt := e96
          have e97 : (pf85 24).toInt = (pf 24).toInt := e97
          have e98 : (pf85 25).toInt = (pf 25).toInt := e98
          have e99 : (pf85 26).toInt = (pf 26).toInt := e99
          have e100 : FrB (pf 13).toInt na ma na86 ma87 := e100
          have hfb := hfb.tr e100 (by first | with_reducible rfl | with_reducible assumption | omega)
          have e101 : FrW (pf 26).toInt wa wa88 := e101
          have hfw := hfw.tr e101 (by first | with_reducible rfl | with_reducible assumption | omega)
          have e102 : VlS ta (tf 6).toInt na86 ma87 v90 (pf 13).toInt (pf85 13).toInt (3 * (bp ta (pf85 11) - bp ta (pf 11))) (200 - (pf 12).toInt) := e102
          have hv_v90 := e102
          have hn_hv_v90 := hv_v90.num fs_ok
          have e103 : FsI (tf 6).toInt (pf85 13).toInt na86 := e103
          have hfs := e103
          have hw : pw D A s.heap H locs [wdP cs h r g tf ta pf85 na86 ma87 wa88 cf ca ef ea xf xa] := hw
          have lv90 := Int32.le_toInt v90
          have uv90 := Int32.toInt_lt v90
          exact th_iret (v := v90) S hr rfl hlk hAe hw (⟨pf85, na86, ma87, wa88, rfl, (show (pf 11).toInt + 1 ≤ (pf85 11).toInt from by first | exact e91 | omega), (show (pf85 11).toInt < (tf 6).toInt from by first | exact e92 | omega), (show (pf 13).toInt + 1 ≤ (pf85 13).toInt from by first | exact e93 | omega), (show (pf85 13).toInt - (pf 13).toInt ≤ (pf85 11).toInt - (pf 11).toInt from by first | exact e94 | omega), (show bp ta (pf 11) + 1 ≤ bp ta (pf85 11) from by first | exact e95 | omega), (show (pf85 12).toInt = (pf 12).toInt from by first | exact e96 | omega), (show (pf85 24).toInt = (pf 24).toInt from by first | exact e97 | omega), (show (pf85 25).toInt = (pf 25).toInt from by first | exact e98 | omega), (show (pf85 26).toInt = (pf 26).toInt from by first | exact e99 | omega), (show FrB (pf 13).toInt na ma na86 ma87 from hfb), (show FrW (pf 26).toInt wa wa88 from hfw), (show VlS ta (tf 6).toInt na86 ma87 v90 (pf 13).toInt (pf85 13).toInt (3 * (bp ta (pf85 11) - bp ta (pf 11))) (200 - (pf 12).toInt) from (VlV.le hv_v90 (by first | with_reducible rfl | with_reducible assumption | omega) (by first | with_reducible rfl | with_reducible assumption | omega) (by first | with_reducible rfl | with_reducible assumption | omega) (by first | with_reducible rfl | with_reducible assumption | omega))), (show FsI (tf 6).toInt (pf85 13).toInt na86 from (FsI.le hfs (by first | with_reducible rfl | with_reducible assumption | omega)))⟩) d_Mpg_statement_84
      · have nc21 : ¬ v18.toInt = (0 : Int) := mt (i_eq (x := v18) (y := 0)).mpr c21
        refine lv_aload_n S.x S.b d_Mpg_statement_53 rfl (lv_at hl 0 rfl) ?_
        refine th_calli (ps0 := [wdP cs h r g tf ta pf na ma wa cf ca ef ea xf xa]) (pr := []) (pcs := [wdP cs h r g tf ta pf na ma wa cf ca ef ea xf xa]) (As := []) (rest := []) (c_mp_declaration l D cs h r g tf ta cf ca ef ea xf xa pf na ma wa  lv (show 0 ≤ (pf 11).toInt from by first | exact g0 | omega) (show (pf 11).toInt < (tf 6).toInt from by first | exact g1 | omega) (show (tf 6).toInt ≤ 2049 from by first | exact g2 | omega) (show 0 ≤ (pf 12).toInt from by first | exact g3 | omega) (show (pf 12).toInt ≤ 60 from by first | exact g4 | omega) (show 0 ≤ (pf 13).toInt from by first | exact g5 | omega) (show (pf 13).toInt ≤ (pf 11).toInt + 10 from by first | exact g6 | omega) (show 0 ≤ (pf 26).toInt from by first | exact g7 | omega) (show (pf 26).toInt ≤ (pf 12).toInt from by first | exact g8 | omega) (show 61 ≤ (pf 12).toInt + (lv : Int) from by first | exact g9 | omega) (show lv ≤ 61 from by first | exact g10 | omega) (show (pf 11).toInt + 1 < (tf 6).toInt from by first | with_reducible rfl | with_reducible assumption | omega) (show so ta (pf 11) = 2 from by first | with_reducible rfl | with_reducible assumption | omega) (show 0 ≤ wh ta (pf 11) from by first | with_reducible rfl | with_reducible assumption | omega) (show wh ta (pf 11) ≤ 1 from by first | with_reducible rfl | with_reducible assumption | omega) hlf htk (FsI.le (N' := (pf 13).toInt) hfs (by first | with_reducible rfl | with_reducible assumption | omega))) S hT hw (oX_call (P := (fun A U H => (oN A U H) ∧ (oP A g U H))) (pr := []) (oG_and oG_N oG_P) hw hA ⟨hN, hP⟩) (px_recv hT hw 0 0 rfl rfl rfl) m12_105 m12_102 m12_104 ms_10_11 m1_21 q_Mpg_declaration ⟨show (8 * lv + 25) + 1 ≤ (8 * lv + 28) from by first | with_reducible rfl | with_reducible assumption | omega, show 8 + (2 + 11) + (220 * lv + 1160) ≤ (220 * lv + 1280) from by first | with_reducible rfl | with_reducible assumption | omega⟩ hl.1 rfl (Nat.le_of_ble_eq_true rfl) d_Mpg_statement_54 ⟨Nat.le_of_ble_eq_true rfl, Nat.le_of_ble_eq_true rfl⟩ hne hlk hA hAe (fun o t h => Or.inr h) ?_ (fun v113 p112 H locs hp112 hw => ?_)
        · exact fun p1 H1 locs1 hp hw => by obtain ⟨pq1, pq2, pq3, pq4, rfl, hq1, hq2⟩ := hp; exact ⟨_, ⟨pq1, pq2, pq3, pq4, rfl, hq1, hq2⟩, hw⟩
        obtain ⟨pf108, na109, ma110, wa111, rfl, e114, e115, e116, e117, e118, e119, e120, e121, e122, e123, e124, e125, e126, e127⟩ := hp112
        have e114 : (pf 11).toInt + 1 ≤ (pf108 11).toInt := e114
        have e115 : (pf108 11).toInt < (tf 6).toInt := e115
        have e116 : (pf 13).toInt + 1 ≤ (pf108 13).toInt := e116
        have e117 : (pf108 13).toInt - (pf 13).toInt ≤ (pf108 11).toInt - (pf 11).toInt := e117
        have e118 : bp ta (pf 11) + 1 ≤ bp ta (pf108 11) := e118
        have e119 : (pf108 12).toInt = (pf 12).toInt := e119
        have e120 : (pf108 24).toInt = (pf 24).toInt := e120
        have e121 : (pf108 25).toInt = (pf 25).toInt := e121
        have e122 : (pf108 26).toInt = (pf 26).toInt := e122
        have e123 : FrB (pf 13).toInt na ma na109 ma110 := e123
        have hfb := hfb.tr e123 (by first | with_reducible rfl | with_reducible assumption | omega)
        have e124 : FrW (pf 26).toInt wa wa111 := e124
        have hfw := hfw.tr e124 (by first | with_reducible rfl | with_reducible assumption | omega)
        have e125 : VlS ta (tf 6).toInt na109 ma110 v113 (pf 13).toInt (pf108 13).toInt (3 * (bp ta (pf108 11) - bp ta (pf 11))) (200 - (pf 12).toInt) := e125
        have hv_v113 := e125
        have hn_hv_v113 := hv_v113.num fs_ok
        have e126 : DcN na109 v113 := e126
        have hf_14_v113 : na109 14 v113.toNatClampNeg = 23 := e126
        have e127 : FsI (tf 6).toInt (pf108 13).toInt na109 := e127
        have hfs := e127
        have hw : pw D A s.heap H locs [wdP cs h r g tf ta pf108 na109 ma110 wa111 cf ca ef ea xf xa] := hw
        have lv113 := Int32.le_toInt v113
        have uv113 := Int32.toInt_lt v113
        exact th_iret (v := v113) S hr rfl hlk hAe hw (⟨pf108, na109, ma110, wa111, rfl, (show (pf 11).toInt + 1 ≤ (pf108 11).toInt from by first | exact e114 | omega), (show (pf108 11).toInt < (tf 6).toInt from by first | exact e115 | omega), (show (pf 13).toInt + 1 ≤ (pf108 13).toInt from by first | exact e116 | omega), (show (pf108 13).toInt - (pf 13).toInt ≤ (pf108 11).toInt - (pf 11).toInt from by first | exact e117 | omega), (show bp ta (pf 11) + 1 ≤ bp ta (pf108 11) from by first | exact e118 | omega), (show (pf108 12).toInt = (pf 12).toInt from by first | exact e119 | omega), (show (pf108 24).toInt = (pf 24).toInt from by first | exact e120 | omega), (show (pf108 25).toInt = (pf 25).toInt from by first | exact e121 | omega), (show (pf108 26).toInt = (pf 26).toInt from by first | exact e122 | omega), (show FrB (pf 13).toInt na ma na109 ma110 from hfb), (show FrW (pf 26).toInt wa wa111 from hfw), (show VlS ta (tf 6).toInt na109 ma110 v113 (pf 13).toInt (pf108 13).toInt (3 * (bp ta (pf108 11) - bp ta (pf 11))) (200 - (pf 12).toInt) from (VlV.le hv_v113 (by first | with_reducible rfl | with_reducible assumption | omega) (by first | with_reducible rfl | with_reducible assumption | omega) (by first | with_reducible rfl | with_reducible assumption | omega) (by first | with_reducible rfl | with_reducible assumption | omega))), (show FsI (tf 6).toInt (pf108 13).toInt na109 from (FsI.le hfs (by first | with_reducible rfl | with_reducible assumption | omega)))⟩) d_Mpg_statement_57
    · have nc16 : ¬ v13.toInt = (0 : Int) := mt (i_eq (x := v13) (y := 0)).mpr c16
      refine lv_aload_n S.x S.b d_Mpg_statement_23 rfl (lv_at hl 0 rfl) ?_
      refine lv_dup S.x S.b d_Mpg_statement_24 rfl ?_
      refine px_get S k_Mpg hT hw 0 0 11 (v := .int (pf 11)) rfl rfl rfl (by decide) m9_235 d_Mpg_statement_25 ?_
      refine lv_iconst (v := 1) S.x S.b d_Mpg_statement_28 (by decide) ?_
      refine lv_iadd S.x S.b d_Mpg_statement_29 ?_
      have lr128 := Int32.le_toInt (pf 11)
      have ur128 := Int32.toInt_lt (pf 11)
      refine lv_topi (fun z129 ez129 => ?_)
      have tz129 : z129.toInt = ((pf 11).toInt + (1 : Int) + 2147483648) % 4294967296 - 2147483648 := by rw [ez129]; exact i_add (pf 11) 1
      have lz129 := Int32.le_toInt z129
      have uz129 := Int32.toInt_lt z129
      try replace tz129 : z129.toInt = (pf 11).toInt + (1 : Int) := by omega
      have hnx29 := tk_n htk (x := (pf 11)) (y := z129) (by first | with_reducible rfl | with_reducible assumption | omega) (by first | with_reducible rfl | with_reducible assumption | omega) (by first | with_reducible rfl | with_reducible assumption | omega)
      refine px_put S k_Mpg hT hw 0 0 11 rfl rfl (by decide) m9_235 rfl rfl rfl (Nat.le_of_ble_eq_true rfl) d_Mpg_statement_30 (w' := wdP cs h r g tf ta (upd pf 11 z129) na ma wa cf ca ef ea xf xa) (ps' := [wdP cs h r g tf ta (upd pf 11 z129) na ma wa cf ca ef ea xf xa]) rfl rfl (fun H locs hw => ?_)
      refine lv_aload_n S.x S.b d_Mpg_statement_33 rfl (lv_at hl 0 rfl) ?_
      refine lv_bipush (v := 21) S.x S.b d_Mpg_statement_34 (by decide) ?_
      refine lv_aload_n S.x S.b d_Mpg_statement_36 rfl (lv_at hl 0 rfl) ?_
      refine px_get S k_Mpg hT hw 0 0 11 (v := .int z129) rfl rfl rfl (by decide) m9_235 d_Mpg_statement_37 ?_
      refine lv_iconst (v := 1) S.x S.b d_Mpg_statement_40 (by decide) ?_
      refine lv_isub S.x S.b d_Mpg_statement_41 ?_
      refine lv_topi (fun z130 ez130 => ?_)
      have tz130 : z130.toInt = (z129.toInt - (1 : Int) + 2147483648) % 4294967296 - 2147483648 := by rw [ez130]; exact i_sub z129 1
      have lz130 := Int32.le_toInt z130
      have uz130 := Int32.toInt_lt z130
      try replace tz130 : z130.toInt = z129.toInt - (1 : Int) := by omega
      refine px_calli (pr := []) (px_runV (As := [.int 21, .int z130]) (rest := []) S (c_mp_make l D cs h r g tf ta wa cf ca ef ea xf xa (upd pf 11 z129) na ma 21 z130  (show 0 ≤ (pf 13).toInt from by first | exact g5 | omega) (show (pf 13).toInt < 2100 from by first | exact oz_3cbdbee99c g6 g1 g2 | omega) _) hT (pr := []) (pcs := [wdP cs h r g tf ta (upd pf 11 z129) na ma wa cf ca ef ea xf xa]) hw px_X.tt (px_recv hT hw 0 0 rfl rfl rfl) m11_209 m11_206 m11_208 ms_8_12 m1_21 q_Mpg_make ⟨show 0 + 1 ≤ (8 * lv + 28) from by first | with_reducible rfl | with_reducible assumption | omega, show 8 + (3 + 11) + 0 ≤ (220 * lv + 1280) from by first | with_reducible rfl | with_reducible assumption | omega⟩ hl.1 rfl (Nat.le_of_ble_eq_true rfl) d_Mpg_statement_42 ⟨Nat.le_of_ble_eq_true rfl, Nat.le_of_ble_eq_true rfl⟩) hw hA (fun v138 p137 H locs hp137 hw => ?_)
      obtain ⟨pf134, na135, ma136, rfl, e139, e140, e141, e142, e143, e144, e145, e146⟩ := hp137
      have e139 : v138.toInt = (pf 13).toInt := e139
      have e140 : (pf134 13).toInt = (pf 13).toInt + 1 := e140
      have e141 : (pf134 11).toInt = z129.toInt := e141
      have e142 : (pf134 12).toInt = (pf 12).toInt := e142
      have e143 : (pf134 24).toInt = (pf 24).toInt := e143
      have e144 : (pf134 25).toInt = (pf 25).toInt := e144
      have e145 : (pf134 26).toInt = (pf 26).toInt := e145
      have e146 : MkN na ma na135 ma136 v138 (21 : Int32) z130 := e146
      obtain ⟨qb1471, qb1472, qb1473, qb1474⟩ := tk_eq (ta := ta) (x := (pf134 11)) (y := z129) (by first | with_reducible rfl | with_reducible assumption | omega)
      have hmk_v138 := e146
      have hfm_v138 := MkN.frb (b := v138.toInt) hmk_v138 (by first | with_reducible rfl | with_reducible assumption | omega) (by first | with_reducible rfl | with_reducible assumption | omega)
      have hfs := FsI.mk hfs hmk_v138 (by first | with_reducible rfl | with_reducible assumption | omega) (by first | with_reducible rfl | with_reducible assumption | omega) (by first | with_reducible rfl | with_reducible assumption | omega) (by first | with_reducible rfl | with_reducible assumption | omega)
      have hfb := hfb.tr hfm_v138 (by first | with_reducible rfl | with_reducible assumption | omega)
      have hf_14_v138 := hmk_v138.2.1 (by decide) (by decide)
      have hf_15_v138 := hmk_v138.2.2.1
      have hf_17_v138 := hmk_v138.2.2.2.2.1
      have hf_21_v138 := hmk_v138.2.2.2.2.2.2.2.2.1
      clear hmk_v138 hfm_v138
      have hw : pw D A s.heap H locs [wdP cs h r g tf ta pf134 na135 ma136 wa cf ca ef ea xf xa] := hw
      have lv138 := Int32.le_toInt v138
      have uv138 := Int32.toInt_lt v138
      exact th_iret (v := v138) S hr rfl hlk hAe hw (⟨pf134, na135, ma136, wa, rfl, (show (pf 11).toInt + 1 ≤ (pf134 11).toInt from by first | exact oz_4488b10ba0 tz129 e141 | omega), (show (pf134 11).toInt < (tf 6).toInt from by first | with_reducible rfl | with_reducible assumption | omega), (show (pf 13).toInt + 1 ≤ (pf134 13).toInt from by first | exact oz_327f171f8a e140 | omega), (show (pf134 13).toInt - (pf 13).toInt ≤ (pf134 11).toInt - (pf 11).toInt from by first | exact oz_9a2a59ed38 tz129 e140 e141 | omega), (show bp ta (pf 11) + 1 ≤ bp ta (pf134 11) from by first | with_reducible rfl | with_reducible assumption | omega), (show (pf134 12).toInt = (pf 12).toInt from by first | exact e142 | omega), (show (pf134 24).toInt = (pf 24).toInt from by first | exact e143 | omega), (show (pf134 25).toInt = (pf 25).toInt from by first | exact e144 | omega), (show (pf134 26).toInt = (pf 26).toInt from by first | exact e145 | omega), (show FrB (pf 13).toInt na ma na135 ma136 from hfb), (show FrW (pf 26).toInt wa wa from hfw), (show VlS ta (tf 6).toInt na135 ma136 v138 (pf 13).toInt (pf134 13).toInt (3 * (bp ta (pf134 11) - bp ta (pf 11))) (200 - (pf 12).toInt) from (VlV.le (st_empty (hi := (pf134 13).toInt) (D := 130) ⟨by first | with_reducible rfl | with_reducible assumption | omega, hf_14_v138, hf_15_v138, ⟨by first | with_reducible rfl | with_reducible assumption | omega, by first | with_reducible rfl | with_reducible assumption | omega⟩, hf_21_v138⟩ (by first | with_reducible rfl | with_reducible assumption | omega) (by first | with_reducible rfl | with_reducible assumption | omega)) (by first | with_reducible rfl | with_reducible assumption | omega) (by first | with_reducible rfl | with_reducible assumption | omega) (by first | with_reducible rfl | with_reducible assumption | omega) (by first | with_reducible rfl | with_reducible assumption | omega))), (show FsI (tf 6).toInt (pf134 13).toInt na135 from (FsI.le hfs (by first | with_reducible rfl | with_reducible assumption | omega)))⟩) d_Mpg_statement_45
  · have nc8 : ¬ v5.toInt = (0 : Int) := mt (i_eq (x := v5) (y := 0)).mpr c8
    refine lv_aload_n S.x S.b d_Mpg_statement_9 rfl (lv_at hl 0 rfl) ?_
    refine th_calli (ps0 := [wdP cs h r g tf ta pf na ma wa cf ca ef ea xf xa]) (pr := []) (pcs := [wdP cs h r g tf ta pf na ma wa cf ca ef ea xf xa]) (As := []) (rest := []) (c_mp_block l D cs h r g tf ta cf ca ef ea xf xa pf na ma wa  lv (show 0 ≤ (pf 11).toInt from by first | exact g0 | omega) (show (pf 11).toInt < (tf 6).toInt from by first | exact g1 | omega) (show (tf 6).toInt ≤ 2049 from by first | exact g2 | omega) (show 0 ≤ (pf 12).toInt from by first | exact g3 | omega) (show (pf 12).toInt ≤ 60 from by first | exact g4 | omega) (show 0 ≤ (pf 13).toInt from by first | exact g5 | omega) (show (pf 13).toInt ≤ (pf 11).toInt + 10 from by first | exact g6 | omega) (show 0 ≤ (pf 26).toInt from by first | exact g7 | omega) (show (pf 26).toInt ≤ (pf 12).toInt from by first | exact g8 | omega) (show 61 ≤ (pf 12).toInt + (lv : Int) from by first | exact g9 | omega) (show lv ≤ 61 from by first | exact g10 | omega) hlf htk (FsI.le (N' := (pf 13).toInt) hfs (by first | with_reducible rfl | with_reducible assumption | omega)) hLT) S hT hw (oX_call (P := (fun A U H => (oN A U H) ∧ (oP A g U H))) (pr := []) (oG_and oG_N oG_P) hw hA ⟨hN, hP⟩) (px_recv hT hw 0 0 rfl rfl rfl) m12_97 m12_94 m12_96 ms_10_9 m1_21 q_Mpg_block ⟨show (8 * lv + 27) + 1 ≤ (8 * lv + 28) from by first | with_reducible rfl | with_reducible assumption | omega, show 8 + (4 + 11) + (220 * lv + 1240) ≤ (220 * lv + 1280) from by first | with_reducible rfl | with_reducible assumption | omega⟩ hl.1 rfl (Nat.le_of_ble_eq_true rfl) d_Mpg_statement_10 ⟨Nat.le_of_ble_eq_true rfl, Nat.le_of_ble_eq_true rfl⟩ hne hlk hA hAe (fun o t h => Or.inr h) ?_ (fun v157 p156 H locs hp156 hw => ?_)
    · exact fun p1 H1 locs1 hp hw => by obtain ⟨pq1, pq2, pq3, pq4, rfl, hq1, hq2⟩ := hp; exact ⟨_, ⟨pq1, pq2, pq3, pq4, rfl, hq1, hq2⟩, hw⟩
    obtain ⟨pf152, na153, ma154, wa155, rfl, e158, e159, e160, e161, e162, e163, e164, e165, e166, e167, e168, e169, e170, e171, e172⟩ := hp156
    have e158 : (pf 11).toInt + 1 ≤ (pf152 11).toInt := e158
    have e159 : (pf152 11).toInt < (tf 6).toInt := e159
    have e160 : (pf 13).toInt + 1 ≤ (pf152 13).toInt := e160
    have e161 : (pf152 13).toInt - (pf 13).toInt ≤ (pf152 11).toInt - (pf 11).toInt := e161
    have e162 : bp ta (pf 11) + 1 ≤ bp ta (pf152 11) := e162
    have e163 : (pf152 12).toInt = (pf 12).toInt := e163
    have e164 : (pf152 24).toInt = (pf 24).toInt := e164
    have e165 : (pf152 25).toInt = (pf 25).toInt := e165
    have e166 : (pf152 26).toInt = (pf 26).toInt := e166
    have e167 : FrB (pf 13).toInt na ma na153 ma154 := e167
    have hfb := hfb.tr e167 (by first | with_reducible rfl | with_reducible assumption | omega)
    have e168 : FrW (pf 26).toInt wa wa155 := e168
    have hfw := hfw.tr e168 (by first | with_reducible rfl | with_reducible assumption | omega)
    have e169 : VlS ta (tf 6).toInt na153 ma154 v157 (pf 13).toInt (pf152 13).toInt (3 * (bp ta (pf152 11) - bp ta (pf 11))) (200 - (pf 12).toInt) := e169
    have hv_v157 := e169
    have hn_hv_v157 := hv_v157.num fs_ok
    have e170 : bp ta (pf 11) + 2 ≤ bp ta (pf152 11) := e170
    have e171 : BkN na153 v157 := e171
    have e172 : FsI (tf 6).toInt (pf152 13).toInt na153 := e172
    have hfs := e172
    have hw : pw D A s.heap H locs [wdP cs h r g tf ta pf152 na153 ma154 wa155 cf ca ef ea xf xa] := hw
    have lv157 := Int32.le_toInt v157
    have uv157 := Int32.toInt_lt v157
    exact th_iret (v := v157) S hr rfl hlk hAe hw (⟨pf152, na153, ma154, wa155, rfl, (show (pf 11).toInt + 1 ≤ (pf152 11).toInt from by first | exact e158 | omega), (show (pf152 11).toInt < (tf 6).toInt from by first | exact e159 | omega), (show (pf 13).toInt + 1 ≤ (pf152 13).toInt from by first | exact e160 | omega), (show (pf152 13).toInt - (pf 13).toInt ≤ (pf152 11).toInt - (pf 11).toInt from by first | exact e161 | omega), (show bp ta (pf 11) + 1 ≤ bp ta (pf152 11) from by first | exact e162 | omega), (show (pf152 12).toInt = (pf 12).toInt from by first | exact e163 | omega), (show (pf152 24).toInt = (pf 24).toInt from by first | exact e164 | omega), (show (pf152 25).toInt = (pf 25).toInt from by first | exact e165 | omega), (show (pf152 26).toInt = (pf 26).toInt from by first | exact e166 | omega), (show FrB (pf 13).toInt na ma na153 ma154 from hfb), (show FrW (pf 26).toInt wa wa155 from hfw), (show VlS ta (tf 6).toInt na153 ma154 v157 (pf 13).toInt (pf152 13).toInt (3 * (bp ta (pf152 11) - bp ta (pf 11))) (200 - (pf 12).toInt) from (VlV.le hv_v157 (by first | with_reducible rfl | with_reducible assumption | omega) (by first | with_reducible rfl | with_reducible assumption | omega) (by first | with_reducible rfl | with_reducible assumption | omega) (by first | with_reducible rfl | with_reducible assumption | omega))), (show FsI (tf 6).toInt (pf152 13).toInt na153 from (FsI.le hfs (by first | with_reducible rfl | with_reducible assumption | omega)))⟩) d_Mpg_statement_13
theorem lvT_all (l : Launch) (D : va_G) (cs : Nat → ClassId) : ∀ lv : Nat, LvT l D cs lv := by
  intro lv
  induction lv with
  | zero => exact lvt_0
  | succ k ih => exact lvt_s (by intro h r g tf ta cf ca ef ea xf xa pf na ma wa g0 g1 g2 g3 g4 g5 g6 g7 g8 g9 g10 hlf htk hfs; exact c_mp_statement l D cs h r g tf ta cf ca ef ea xf xa pf na ma wa k g0 g1 g2 g3 g4 g5 g6 g7 g8 g9 g10 hlf htk hfs ih)
set_option maxHeartbeats 4000000 in
set_option maxRecDepth 100000 in
theorem c_S_block (l : Launch) (D : va_G) (cs : Nat → ClassId) (h : Nat) (r : Nat → Nat) (g : Nat → Nat → Option Nat) (tf : Nat → Int32) (ta : Nat → Nat → Int32) (cf : Nat → Int32) (ca : Nat → Nat → Int32) (ef : Nat → Int32) (ea : Nat → Nat → Int32) (xf : Nat → Int32) (xa : Nat → Nat → Int32) (pf : Nat → Int32) (na : Nat → Nat → Int32) (ma : Nat → Nat → Int32) (wa : Nat → Nat → Int32) (lv : Nat) (g0 : 0 ≤ (pf 11).toInt) (g1 : (pf 11).toInt < (tf 6).toInt) (g2 : (tf 6).toInt ≤ 2049) (g3 : 0 ≤ (pf 12).toInt) (g4 : (pf 12).toInt ≤ 60) (g5 : 0 ≤ (pf 13).toInt) (g6 : (pf 13).toInt ≤ (pf 11).toInt + 10) (g7 : 0 ≤ (pf 26).toInt) (g8 : (pf 26).toInt ≤ (pf 12).toInt) (g9 : 61 ≤ (pf 12).toInt + (lv : Int)) (g10 : lv ≤ 61) (hlf : l.flags = pinnedFlags ++ [noTraceFlag]) (htk : TkI tf ta) (hfs : FsI (tf 6).toInt (pf 13).toInt na) : ThI l y_Mpg_block b_Mpg_block 4 (.int) D cs (8 * lv + 27) (220 * lv + 1240) [.ref h] [wdP cs h r g tf ta pf na ma wa cf ca ef ea xf xa] (oX (fun A U H => (oN A U H) ∧ (oP A g U H)) [wdP cs h r g tf ta pf na ma wa cf ca ef ea xf xa]) "java/lang/IllegalArgumentException" (fun v ps => ∃ (pf' : Nat → Int32) (na' : Nat → Nat → Int32) (ma' : Nat → Nat → Int32) (wa' : Nat → Nat → Int32), (ps = [wdP cs h r g tf ta pf' na' ma' wa' cf ca ef ea xf xa]) ∧ ((pf 11).toInt + 1 ≤ (pf' 11).toInt) ∧ ((pf' 11).toInt < (tf 6).toInt) ∧ ((pf 13).toInt + 1 ≤ (pf' 13).toInt) ∧ ((pf' 13).toInt - (pf 13).toInt ≤ (pf' 11).toInt - (pf 11).toInt) ∧ (bp ta (pf 11) + 1 ≤ bp ta (pf' 11)) ∧ ((pf' 12).toInt = (pf 12).toInt) ∧ ((pf' 24).toInt = (pf 24).toInt) ∧ ((pf' 25).toInt = (pf 25).toInt) ∧ ((pf' 26).toInt = (pf 26).toInt) ∧ (FrB (pf 13).toInt na ma na' ma') ∧ (FrW (pf 26).toInt wa wa') ∧ (VlS ta (tf 6).toInt na' ma' v (pf 13).toInt (pf' 13).toInt (3 * (bp ta (pf' 11) - bp ta (pf 11))) (200 - (pf 12).toInt)) ∧ (bp ta (pf 11) + 2 ≤ bp ta (pf' 11)) ∧ (BkN na' v) ∧ (FsI (tf 6).toInt (pf' 13).toInt na')) (fun ps => ∃ (pf' : Nat → Int32) (na' : Nat → Nat → Int32) (ma' : Nat → Nat → Int32) (wa' : Nat → Nat → Int32), ps = [wdP cs h r g tf ta pf' na' ma' wa' cf ca ef ea xf xa] ∧ 0 ≤ (pf' 11).toInt ∧ (pf' 11).toInt + 1 ≤ (tf 6).toInt) := by
  exact c_mp_block l D cs h r g tf ta cf ca ef ea xf xa pf na ma wa lv g0 g1 g2 g3 g4 g5 g6 g7 g8 g9 g10 hlf htk hfs (lvT_all l D cs lv)
