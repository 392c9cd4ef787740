theorem oz_d342e04a5c {a0 a1 : Int} (h0 : a0 = a1 + 1) (h1 : ¬ (13 : Int) ≤ a1) : a0 ≤ 13 := by omega
theorem oz_6680d080b4 {a0 a2 : Int} {n1 : Nat} (h0 : 13 - a2 < ((n1 + 1 : Nat) : Int)) (h1 : a0 = a2 + 1) : 13 - a0 < (n1 : Int) := by omega
theorem oz_5c6028159b {a0 a1 a2 : Int} (h0 : a0 + a2 ≤ a1) (h1 : 0 ≤ a2) (h2 : ¬ a2 = (0 : Int)) : a0 + (1 : Int) ≤ a1 := by omega
theorem oz_114f3a14bc {a0 a1 a2 : Int} (h0 : a0 + a2 ≤ a1) (h1 : 0 ≤ a2) : a0 + (0 : Int) ≤ a1 := by omega
theorem oz_c92d53f5de {a0 a1 a2 a3 : Int} (h0 : a2 = a1 - a3 - 30) (h1 : a0 = a2) (h2 : 0 ≤ a3) : a0 ≤ a1 := by omega
theorem oz_1dda568f25 {a0 a1 a2 a3 : Int} (h0 : a3 = a1 - a2 - 30) (h1 : a0 = a3) : a0 = a1 - a2 - 30 := by omega
theorem oz_fc8b4ec74a  : (0 : Int) ≤ 13 := by omega
theorem oz_b8f25a55ed {a0 : Int} (h0 : 0 ≤ a0) (h1 : a0 < 8) : 0 ≤ a0 ∧ a0 < ((8 : Nat) : Int) := by omega
theorem oz_988ece23c5 {a1 : Int} {n0 : Nat} (h0 : (n0 : Int) = a1) (h1 : a1 < 8) : n0 < 8 := by omega
theorem oz_694b8e2913 {a0 : Int} (h0 : ¬ (100 : Int) < a0) : a0 ≤ 100 := by omega
theorem oz_8100819c59 {a0 : Int} (h0 : a0 ≤ (512 : Int)) : a0 ≤ 512 := by omega
theorem oz_493e98d437 {a0 a1 a2 a3 a4 : Int} (h0 : a0 = a1 - (30 : Int)) (h1 : a1 = a2 - a3) (h2 : a4 = a3 + (30 : Int)) (h3 : a4 ≤ a2) : 0 ≤ a0 := by omega
theorem oz_5aae3ef4c0 {a0 a1 a2 a3 : Int} (h0 : a2 = a1 - a3) (h1 : a0 = a2 - (30 : Int)) (h2 : ¬ a3 < (0 : Int)) : a0 ≤ a1 := by omega
theorem oz_a7c5241a94 {a0 : Int} {n1 : Nat} (h0 : (n1 : Int) = a0) (h1 : n1 < 8) : a0 < 8 := by omega
theorem oz_9ac3f52e78 {a0 a1 a2 a3 : Int} (h0 : a3 = a1 - a2) (h1 : a0 = a3 - (30 : Int)) : a0 = a1 - a2 - 30 := by omega
theorem m13_166 : Cond.methodLink "HomeSystemModel" 230 ⟨"HomeSystemModel", "goOn", "(I)Z"⟩ ∈ AL := AL_13 (List.mem_of_getElem? (i := 166) rfl) rfl
theorem m13_169 : Cond.code ⟨"HomeSystemModel", "goOn", "(I)Z"⟩ prog_14_method_27_code 8 (Option.some FieldType.boolean) ∈ AL := AL_13 (List.mem_of_getElem? (i := 169) rfl) rfl
theorem ms_14_15 : Cond.selects "HomeSystemModel" ⟨"HomeSystemModel", "goOn", "(I)Z"⟩ ⟨"HomeSystemModel", "goOn", "(I)Z"⟩ ∈ AL := AL_p (q := (⟨"HomeSystemModel", "goOn", "(I)Z"⟩, 11)) (by unfold lw_privs; exact List.mem_append_right _ (List.mem_append_right _ (List.mem_append_right _ (List.mem_append_right _ (List.mem_append_right _ (List.mem_append_right _ (List.mem_append_right _ (List.mem_append_right _ (List.mem_append_right _ (List.mem_append_right _ (List.mem_append_right _ (List.mem_append_right _ (List.mem_append_right _ (List.mem_append_left _ (List.mem_of_getElem? (i := 15) rfl)))))))))))))))
theorem m13_168 : Cond.instanceMethod ⟨"HomeSystemModel", "goOn", "(I)Z"⟩ ∈ AL := AL_13 (List.mem_of_getElem? (i := 168) rfl) rfl
theorem m11_22 : Cond.fieldLink "HomeSystemModel" 227 "HomeSystemModel$Process" "written" "I" ∈ AL := AL_11 (List.mem_of_getElem? (i := 22) rfl) rfl
theorem m11_78 : Cond.fieldLink "HomeSystemModel" 35 "HomeSystemModel" "thrown" "I" ∈ AL := AL_11 (List.mem_of_getElem? (i := 78) rfl) rfl
theorem m11_88 : Cond.fieldLink "HomeSystemModel" 29 "HomeSystemModel" "life" "I" ∈ AL := AL_11 (List.mem_of_getElem? (i := 88) rfl) rfl
set_option maxHeartbeats 4000000 in
set_option maxRecDepth 100000 in
theorem c_mo_isProg2 (l : Launch) (D : va_G) (cs : Nat → ClassId)  (p0 : Int32)   : MetI l y_Mo_isProgram b_Mo_isProgram 1 (.boolean) D cs 0 0 (0) (0) [.int p0] [] (fun _ => True) (fun v ps => (ps = []) ∧ (0 ≤ v.toInt) ∧ (v.toInt ≤ 1) ∧ ((v.toInt = 1 ∧ 0 ≤ p0.toInt ∧ p0.toInt < 8) ∨ (v.toInt = 0 ∧ (p0.toInt < 0 ∨ 8 ≤ p0.toInt)))) := by
  refine px_enter (by decide) (Nat.le_of_ble_eq_true rfl) ?_
  intro p e s m below meth c A ls hAe S hr hlk hnm hA hT hX hw hl
  have hl : lv_has ls 1 [(0, .int p0)] := hl
  have lp0 := Int32.le_toInt p0
  have up0 := Int32.toInt_lt p0
  have cst0 : (0 : Int32).toInt = 0 := rfl
  have cst1 : (1 : Int32).toInt = 1 := rfl
  have cst8 : (8 : Int32).toInt = 8 := rfl
  refine lv_iload_n S.x S.b d_Mo_isProgram_0 rfl (lv_at hl 0 rfl) ?_
  refine lv_if_lt (tgt := 14) S.x S.b d_Mo_isProgram_1 (by decide) (fun c1 => ?_) (fun c1 => ?_)
  · have nc1 : p0.toInt < (0 : Int) := (i_lt (x := p0) (y := 0)).mp c1
    refine lv_iconst (v := 0) S.x S.b d_Mo_isProgram_14 (by decide) ?_
    exact px_iret (v := 0) S hr rfl hlk hAe hw (Nat.le_of_ble_eq_true rfl) (Nat.le_of_ble_eq_true rfl) (⟨rfl, (show 0 ≤ (0 : Int) from by first | exact oz_5a341f00aa | omega), (show (0 : Int) ≤ 1 from by first | exact oz_6e68cd0f48 | omega), (show ((0 : Int) = 1 ∧ 0 ≤ p0.toInt ∧ p0.toInt < 8) ∨ ((0 : Int) = 0 ∧ (p0.toInt < 0 ∨ 8 ≤ p0.toInt)) from by omega)⟩) d_Mo_isProgram_15
  · have nc1 : ¬ p0.toInt < (0 : Int) := mt (i_lt (x := p0) (y := 0)).mpr c1
    refine lv_iload_n S.x S.b d_Mo_isProgram_4 rfl (lv_at hl 0 rfl) ?_
    refine lv_bipush (v := 8) S.x S.b d_Mo_isProgram_5 (by decide) ?_
    refine lv_icmp_ge (tgt := 14) S.x S.b d_Mo_isProgram_7 (by decide) (fun c3 => ?_) (fun c3 => ?_)
    · have nc3 : (8 : Int) ≤ p0.toInt := (i_le (x := 8) (y := p0)).mp c3
      refine lv_iconst (v := 0) S.x S.b d_Mo_isProgram_14 (by decide) ?_
      exact px_iret (v := 0) S hr rfl hlk hAe hw (Nat.le_of_ble_eq_true rfl) (Nat.le_of_ble_eq_true rfl) (⟨rfl, (show 0 ≤ (0 : Int) from by first | exact oz_5a341f00aa | omega), (show (0 : Int) ≤ 1 from by first | exact oz_6e68cd0f48 | omega), (show ((0 : Int) = 1 ∧ 0 ≤ p0.toInt ∧ p0.toInt < 8) ∨ ((0 : Int) = 0 ∧ (p0.toInt < 0 ∨ 8 ≤ p0.toInt)) from by omega)⟩) d_Mo_isProgram_15
    · have nc3 : ¬ (8 : Int) ≤ p0.toInt := mt (i_le (x := 8) (y := p0)).mpr c3
      refine lv_iconst (v := 1) S.x S.b d_Mo_isProgram_10 (by decide) ?_
      refine lv_goto (tgt := 15) S.x S.b d_Mo_isProgram_11 (by decide) ?_
      exact px_iret (v := 1) S hr rfl hlk hAe hw (Nat.le_of_ble_eq_true rfl) (Nat.le_of_ble_eq_true rfl) (⟨rfl, (show 0 ≤ (1 : Int) from by first | exact oz_19c3a41681 | omega), (show (1 : Int) ≤ 1 from by first | exact oz_f9181dc4bb | omega), (show ((1 : Int) = 1 ∧ 0 ≤ p0.toInt ∧ p0.toInt < 8) ∨ ((1 : Int) = 0 ∧ (p0.toInt < 0 ∨ 8 ≤ p0.toInt)) from by omega)⟩) d_Mo_isProgram_15
abbrev b_Mo_run : ByteArray := prog_14_method_28_code
def y_Mo_run : MethodName := ⟨"HomeSystemModel", "run", "(IIII)I"⟩
theorem d_Mo_run_0 : decode b_Mo_run 0 = .ok (.aload_n 0, 1) := by decide +kernel
theorem d_Mo_run_1 : decode b_Mo_run 1 = .ok (.iload_n 1, 1) := by decide +kernel
theorem d_Mo_run_2 : decode b_Mo_run 2 = .ok (.invokestatic 41, 3) := by decide +kernel
theorem d_Mo_run_5 : decode b_Mo_run 5 = .ok (.ifCond .ne 7, 3) := by decide +kernel
theorem d_Mo_run_8 : decode b_Mo_run 8 = .ok (.iconst 1, 1) := by decide +kernel
theorem d_Mo_run_9 : decode b_Mo_run 9 = .ok (.goto 46, 3) := by decide +kernel
theorem d_Mo_run_12 : decode b_Mo_run 12 = .ok (.iload_n 3, 1) := by decide +kernel
theorem d_Mo_run_13 : decode b_Mo_run 13 = .ok (.ifCond .lt 22, 3) := by decide +kernel
theorem d_Mo_run_16 : decode b_Mo_run 16 = .ok (.iload_n 3, 1) := by decide +kernel
theorem d_Mo_run_17 : decode b_Mo_run 17 = .ok (.bipush 100, 2) := by decide +kernel
theorem d_Mo_run_19 : decode b_Mo_run 19 = .ok (.if_icmp .gt 16, 3) := by decide +kernel
theorem d_Mo_run_22 : decode b_Mo_run 22 = .ok (.iload 4, 2) := by decide +kernel
theorem d_Mo_run_24 : decode b_Mo_run 24 = .ok (.ifCond .lt 11, 3) := by decide +kernel
theorem d_Mo_run_27 : decode b_Mo_run 27 = .ok (.iload 4, 2) := by decide +kernel
theorem d_Mo_run_29 : decode b_Mo_run 29 = .ok (.sipush 512, 3) := by decide +kernel
theorem d_Mo_run_32 : decode b_Mo_run 32 = .ok (.if_icmp .le 7, 3) := by decide +kernel
theorem d_Mo_run_35 : decode b_Mo_run 35 = .ok (.iconst 2, 1) := by decide +kernel
theorem d_Mo_run_36 : decode b_Mo_run 36 = .ok (.goto 19, 3) := by decide +kernel
theorem d_Mo_run_39 : decode b_Mo_run 39 = .ok (.aload_n 0, 1) := by decide +kernel
theorem d_Mo_run_40 : decode b_Mo_run 40 = .ok (.getfield 29, 3) := by decide +kernel
theorem d_Mo_run_43 : decode b_Mo_run 43 = .ok (.iload_n 3, 1) := by decide +kernel
theorem d_Mo_run_44 : decode b_Mo_run 44 = .ok (.bipush 30, 2) := by decide +kernel
theorem d_Mo_run_46 : decode b_Mo_run 46 = .ok (.iadd, 1) := by decide +kernel
theorem d_Mo_run_47 : decode b_Mo_run 47 = .ok (.if_icmp .ge 7, 3) := by decide +kernel
theorem d_Mo_run_50 : decode b_Mo_run 50 = .ok (.iconst 3, 1) := by decide +kernel
theorem d_Mo_run_51 : decode b_Mo_run 51 = .ok (.goto 4, 3) := by decide +kernel
theorem d_Mo_run_54 : decode b_Mo_run 54 = .ok (.iconst 0, 1) := by decide +kernel
theorem d_Mo_run_55 : decode b_Mo_run 55 = .ok (.putfield 35, 3) := by decide +kernel
theorem d_Mo_run_58 : decode b_Mo_run 58 = .ok (.aload_n 0, 1) := by decide +kernel
theorem d_Mo_run_59 : decode b_Mo_run 59 = .ok (.getfield 35, 3) := by decide +kernel
theorem d_Mo_run_62 : decode b_Mo_run 62 = .ok (.ifCond .le 5, 3) := by decide +kernel
theorem d_Mo_run_65 : decode b_Mo_run 65 = .ok (.iconst 0, 1) := by decide +kernel
theorem d_Mo_run_66 : decode b_Mo_run 66 = .ok (.ireturn, 1) := by decide +kernel
theorem d_Mo_run_67 : decode b_Mo_run 67 = .ok (.aload_n 0, 1) := by decide +kernel
theorem d_Mo_run_68 : decode b_Mo_run 68 = .ok (.getfield 15, 3) := by decide +kernel
theorem d_Mo_run_71 : decode b_Mo_run 71 = .ok (.iload_n 1, 1) := by decide +kernel
theorem d_Mo_run_72 : decode b_Mo_run 72 = .ok (.aaload, 1) := by decide +kernel
theorem d_Mo_run_73 : decode b_Mo_run 73 = .ok (.getfield 61, 3) := by decide +kernel
theorem d_Mo_run_76 : decode b_Mo_run 76 = .ok (.ifCond .ne 5, 3) := by decide +kernel
theorem d_Mo_run_79 : decode b_Mo_run 79 = .ok (.iconst (-1), 1) := by decide +kernel
theorem d_Mo_run_80 : decode b_Mo_run 80 = .ok (.ireturn, 1) := by decide +kernel
theorem d_Mo_run_81 : decode b_Mo_run 81 = .ok (.aload_n 0, 1) := by decide +kernel
theorem d_Mo_run_82 : decode b_Mo_run 82 = .ok (.aload_n 0, 1) := by decide +kernel
theorem d_Mo_run_83 : decode b_Mo_run 83 = .ok (.getfield 29, 3) := by decide +kernel
theorem d_Mo_run_86 : decode b_Mo_run 86 = .ok (.iload_n 3, 1) := by decide +kernel
theorem d_Mo_run_87 : decode b_Mo_run 87 = .ok (.isub, 1) := by decide +kernel
theorem d_Mo_run_88 : decode b_Mo_run 88 = .ok (.bipush 30, 2) := by decide +kernel
theorem d_Mo_run_90 : decode b_Mo_run 90 = .ok (.isub, 1) := by decide +kernel
theorem d_Mo_run_91 : decode b_Mo_run 91 = .ok (.putfield 29, 3) := by decide +kernel
theorem d_Mo_run_94 : decode b_Mo_run 94 = .ok (.aload_n 0, 1) := by decide +kernel
theorem d_Mo_run_95 : decode b_Mo_run 95 = .ok (.iload_n 3, 1) := by decide +kernel
theorem d_Mo_run_96 : decode b_Mo_run 96 = .ok (.putfield 117, 3) := by decide +kernel
theorem d_Mo_run_99 : decode b_Mo_run 99 = .ok (.aload_n 0, 1) := by decide +kernel
theorem d_Mo_run_100 : decode b_Mo_run 100 = .ok (.iload 4, 2) := by decide +kernel
theorem d_Mo_run_102 : decode b_Mo_run 102 = .ok (.putfield 120, 3) := by decide +kernel
theorem d_Mo_run_105 : decode b_Mo_run 105 = .ok (.iconst 0, 1) := by decide +kernel
theorem d_Mo_run_106 : decode b_Mo_run 106 = .ok (.istore 5, 2) := by decide +kernel
theorem d_Mo_run_108 : decode b_Mo_run 108 = .ok (.iload 5, 2) := by decide +kernel
theorem d_Mo_run_110 : decode b_Mo_run 110 = .ok (.bipush 13, 2) := by decide +kernel
theorem d_Mo_run_112 : decode b_Mo_run 112 = .ok (.if_icmp .ge 53, 3) := by decide +kernel
theorem d_Mo_run_115 : decode b_Mo_run 115 = .ok (.aload_n 0, 1) := by decide +kernel
theorem d_Mo_run_116 : decode b_Mo_run 116 = .ok (.getfield 21, 3) := by decide +kernel
theorem d_Mo_run_119 : decode b_Mo_run 119 = .ok (.iload 5, 2) := by decide +kernel
theorem d_Mo_run_121 : decode b_Mo_run 121 = .ok (.aaload, 1) := by decide +kernel
theorem d_Mo_run_122 : decode b_Mo_run 122 = .ok (.iconst 0, 1) := by decide +kernel
theorem d_Mo_run_123 : decode b_Mo_run 123 = .ok (.putfield 69, 3) := by decide +kernel
theorem d_Mo_run_126 : decode b_Mo_run 126 = .ok (.aload_n 0, 1) := by decide +kernel
theorem d_Mo_run_127 : decode b_Mo_run 127 = .ok (.getfield 21, 3) := by decide +kernel
theorem d_Mo_run_130 : decode b_Mo_run 130 = .ok (.iload 5, 2) := by decide +kernel
theorem d_Mo_run_132 : decode b_Mo_run 132 = .ok (.aaload, 1) := by decide +kernel
theorem d_Mo_run_133 : decode b_Mo_run 133 = .ok (.iconst 0, 1) := by decide +kernel
theorem d_Mo_run_134 : decode b_Mo_run 134 = .ok (.putfield 76, 3) := by decide +kernel
theorem d_Mo_run_137 : decode b_Mo_run 137 = .ok (.aload_n 0, 1) := by decide +kernel
theorem d_Mo_run_138 : decode b_Mo_run 138 = .ok (.getfield 21, 3) := by decide +kernel
theorem d_Mo_run_141 : decode b_Mo_run 141 = .ok (.iload 5, 2) := by decide +kernel
theorem d_Mo_run_143 : decode b_Mo_run 143 = .ok (.aaload, 1) := by decide +kernel
theorem d_Mo_run_144 : decode b_Mo_run 144 = .ok (.iconst 0, 1) := by decide +kernel
theorem d_Mo_run_145 : decode b_Mo_run 145 = .ok (.putfield 73, 3) := by decide +kernel
theorem d_Mo_run_148 : decode b_Mo_run 148 = .ok (.aload_n 0, 1) := by decide +kernel
theorem d_Mo_run_149 : decode b_Mo_run 149 = .ok (.getfield 21, 3) := by decide +kernel
theorem d_Mo_run_152 : decode b_Mo_run 152 = .ok (.iload 5, 2) := by decide +kernel
theorem d_Mo_run_154 : decode b_Mo_run 154 = .ok (.aaload, 1) := by decide +kernel
theorem d_Mo_run_155 : decode b_Mo_run 155 = .ok (.iconst 0, 1) := by decide +kernel
theorem d_Mo_run_156 : decode b_Mo_run 156 = .ok (.putfield 227, 3) := by decide +kernel
theorem d_Mo_run_159 : decode b_Mo_run 159 = .ok (.iinc 5 1, 3) := by decide +kernel
theorem d_Mo_run_162 : decode b_Mo_run 162 = .ok (.goto (-54), 3) := by decide +kernel
theorem d_Mo_run_165 : decode b_Mo_run 165 = .ok (.aload_n 0, 1) := by decide +kernel
theorem d_Mo_run_166 : decode b_Mo_run 166 = .ok (.getfield 21, 3) := by decide +kernel
theorem d_Mo_run_169 : decode b_Mo_run 169 = .ok (.iconst 0, 1) := by decide +kernel
theorem d_Mo_run_170 : decode b_Mo_run 170 = .ok (.aaload, 1) := by decide +kernel
theorem d_Mo_run_171 : decode b_Mo_run 171 = .ok (.aload_n 0, 1) := by decide +kernel
theorem d_Mo_run_172 : decode b_Mo_run 172 = .ok (.getfield 15, 3) := by decide +kernel
theorem d_Mo_run_175 : decode b_Mo_run 175 = .ok (.iload_n 1, 1) := by decide +kernel
theorem d_Mo_run_176 : decode b_Mo_run 176 = .ok (.aaload, 1) := by decide +kernel
theorem d_Mo_run_177 : decode b_Mo_run 177 = .ok (.iload_n 2, 1) := by decide +kernel
theorem d_Mo_run_178 : decode b_Mo_run 178 = .ok (.iload_n 3, 1) := by decide +kernel
theorem d_Mo_run_179 : decode b_Mo_run 179 = .ok (.iload 4, 2) := by decide +kernel
theorem d_Mo_run_181 : decode b_Mo_run 181 = .ok (.invokevirtual 123, 3) := by decide +kernel
theorem d_Mo_run_184 : decode b_Mo_run 184 = .ok (.iconst 1, 1) := by decide +kernel
theorem d_Mo_run_185 : decode b_Mo_run 185 = .ok (.istore 5, 2) := by decide +kernel
theorem d_Mo_run_187 : decode b_Mo_run 187 = .ok (.iload 5, 2) := by decide +kernel
theorem d_Mo_run_189 : decode b_Mo_run 189 = .ok (.ifCond .eq 71, 3) := by decide +kernel
theorem d_Mo_run_192 : decode b_Mo_run 192 = .ok (.iconst 0, 1) := by decide +kernel
theorem d_Mo_run_193 : decode b_Mo_run 193 = .ok (.istore 5, 2) := by decide +kernel
theorem d_Mo_run_195 : decode b_Mo_run 195 = .ok (.iconst 0, 1) := by decide +kernel
theorem d_Mo_run_196 : decode b_Mo_run 196 = .ok (.istore 6, 2) := by decide +kernel
theorem d_Mo_run_198 : decode b_Mo_run 198 = .ok (.iload 6, 2) := by decide +kernel
theorem d_Mo_run_200 : decode b_Mo_run 200 = .ok (.bipush 13, 2) := by decide +kernel
theorem d_Mo_run_202 : decode b_Mo_run 202 = .ok (.if_icmp .ge 55, 3) := by decide +kernel
theorem d_Mo_run_205 : decode b_Mo_run 205 = .ok (.aload_n 0, 1) := by decide +kernel
theorem d_Mo_run_206 : decode b_Mo_run 206 = .ok (.getfield 21, 3) := by decide +kernel
theorem d_Mo_run_209 : decode b_Mo_run 209 = .ok (.iload 6, 2) := by decide +kernel
theorem d_Mo_run_211 : decode b_Mo_run 211 = .ok (.aaload, 1) := by decide +kernel
theorem d_Mo_run_212 : decode b_Mo_run 212 = .ok (.invokevirtual 178, 3) := by decide +kernel
theorem d_Mo_run_215 : decode b_Mo_run 215 = .ok (.ifCond .eq 16, 3) := by decide +kernel
theorem d_Mo_run_218 : decode b_Mo_run 218 = .ok (.aload_n 0, 1) := by decide +kernel
theorem d_Mo_run_219 : decode b_Mo_run 219 = .ok (.iload 6, 2) := by decide +kernel
theorem d_Mo_run_221 : decode b_Mo_run 221 = .ok (.invokevirtual 230, 3) := by decide +kernel
theorem d_Mo_run_224 : decode b_Mo_run 224 = .ok (.ifCond .eq 7, 3) := by decide +kernel
theorem d_Mo_run_227 : decode b_Mo_run 227 = .ok (.iconst 1, 1) := by decide +kernel
theorem d_Mo_run_228 : decode b_Mo_run 228 = .ok (.goto 4, 3) := by decide +kernel
theorem d_Mo_run_231 : decode b_Mo_run 231 = .ok (.iconst 0, 1) := by decide +kernel
theorem d_Mo_run_232 : decode b_Mo_run 232 = .ok (.istore 7, 2) := by decide +kernel
theorem d_Mo_run_234 : decode b_Mo_run 234 = .ok (.iload 5, 2) := by decide +kernel
theorem d_Mo_run_236 : decode b_Mo_run 236 = .ok (.ifCond .ne 8, 3) := by decide +kernel
theorem d_Mo_run_239 : decode b_Mo_run 239 = .ok (.iload 7, 2) := by decide +kernel
theorem d_Mo_run_241 : decode b_Mo_run 241 = .ok (.ifCond .eq 7, 3) := by decide +kernel
theorem d_Mo_run_244 : decode b_Mo_run 244 = .ok (.iconst 1, 1) := by decide +kernel
theorem d_Mo_run_245 : decode b_Mo_run 245 = .ok (.goto 4, 3) := by decide +kernel
theorem d_Mo_run_248 : decode b_Mo_run 248 = .ok (.iconst 0, 1) := by decide +kernel
theorem d_Mo_run_249 : decode b_Mo_run 249 = .ok (.istore 5, 2) := by decide +kernel
theorem d_Mo_run_251 : decode b_Mo_run 251 = .ok (.iinc 6 1, 3) := by decide +kernel
theorem d_Mo_run_254 : decode b_Mo_run 254 = .ok (.goto (-56), 3) := by decide +kernel
theorem d_Mo_run_257 : decode b_Mo_run 257 = .ok (.goto (-70), 3) := by decide +kernel
theorem d_Mo_run_260 : decode b_Mo_run 260 = .ok (.iconst 0, 1) := by decide +kernel
theorem d_Mo_run_261 : decode b_Mo_run 261 = .ok (.istore 6, 2) := by decide +kernel
theorem d_Mo_run_263 : decode b_Mo_run 263 = .ok (.iload 6, 2) := by decide +kernel
theorem d_Mo_run_265 : decode b_Mo_run 265 = .ok (.bipush 13, 2) := by decide +kernel
theorem d_Mo_run_267 : decode b_Mo_run 267 = .ok (.if_icmp .ge 35, 3) := by decide +kernel
theorem d_Mo_run_270 : decode b_Mo_run 270 = .ok (.aload_n 0, 1) := by decide +kernel
theorem d_Mo_run_271 : decode b_Mo_run 271 = .ok (.getfield 21, 3) := by decide +kernel
theorem d_Mo_run_274 : decode b_Mo_run 274 = .ok (.iload 6, 2) := by decide +kernel
theorem d_Mo_run_276 : decode b_Mo_run 276 = .ok (.aaload, 1) := by decide +kernel
theorem d_Mo_run_277 : decode b_Mo_run 277 = .ok (.invokevirtual 178, 3) := by decide +kernel
theorem d_Mo_run_280 : decode b_Mo_run 280 = .ok (.ifCond .eq 16, 3) := by decide +kernel
theorem d_Mo_run_283 : decode b_Mo_run 283 = .ok (.aload_n 0, 1) := by decide +kernel
theorem d_Mo_run_284 : decode b_Mo_run 284 = .ok (.getfield 21, 3) := by decide +kernel
theorem d_Mo_run_287 : decode b_Mo_run 287 = .ok (.iload 6, 2) := by decide +kernel
theorem d_Mo_run_289 : decode b_Mo_run 289 = .ok (.aaload, 1) := by decide +kernel
theorem d_Mo_run_290 : decode b_Mo_run 290 = .ok (.bipush 6, 2) := by decide +kernel
theorem d_Mo_run_292 : decode b_Mo_run 292 = .ok (.iconst 0, 1) := by decide +kernel
theorem d_Mo_run_293 : decode b_Mo_run 293 = .ok (.invokevirtual 85, 3) := by decide +kernel
theorem d_Mo_run_296 : decode b_Mo_run 296 = .ok (.iinc 6 1, 3) := by decide +kernel
theorem d_Mo_run_299 : decode b_Mo_run 299 = .ok (.goto (-36), 3) := by decide +kernel
theorem d_Mo_run_302 : decode b_Mo_run 302 = .ok (.aload_n 0, 1) := by decide +kernel
theorem d_Mo_run_303 : decode b_Mo_run 303 = .ok (.getfield 21, 3) := by decide +kernel
theorem d_Mo_run_306 : decode b_Mo_run 306 = .ok (.iconst 0, 1) := by decide +kernel
theorem d_Mo_run_307 : decode b_Mo_run 307 = .ok (.aaload, 1) := by decide +kernel
theorem d_Mo_run_308 : decode b_Mo_run 308 = .ok (.getfield 127, 3) := by decide +kernel
theorem d_Mo_run_311 : decode b_Mo_run 311 = .ok (.ireturn, 1) := by decide +kernel
theorem q_Mo_run : px_y y_Mo_run 4 := by unfold px_y; decide +kernel
set_option maxHeartbeats 4000000 in
set_option maxRecDepth 100000 in
theorem c_mo_run (l : Launch) (D : va_G) (cs : Nat → ClassId) (mo : Nat) (mr : Nat → Nat) (mf : Nat → Int32) (md : Nat → Nat → Int32) (hq : Nat → Nat) (qr : Nat → Nat → Nat) (QO : Nat → Option Nat) (QF : Nat → Nat → Int32) (QA : Nat → Nat → Nat → Int32) (PG : Nat → Pgs) (p0 p1 p2 p3 : Int32)  (g0 : 0 ≤ (mf 10).toInt) (g1 : (mf 10).toInt ≤ 6000) (hpn : PrN QF) (hpg : PgA PG) : MetI l y_Mo_run b_Mo_run 8 (.int) D cs 14 600 (0) (0) [.ref mo, .int p0, .int p1, .int p2, .int p3] [wd_Mo cs mo mr (fun _ => none) mf md (gMo PG hq), fm 13 (fPr cs hq qr QO QF QA), fm 8 (fPg cs PG)] (oX (fun A U H => (∀ j : Nat, j < 8 → oP A (PG j).g U H) ∧ (oLW A U H)) [wd_Mo cs mo mr (fun _ => none) mf md (gMo PG hq), fm 13 (fPr cs hq qr QO QF QA), fm 8 (fPg cs PG)]) (fun v ps => ∃ (mf' : Nat → Int32) (md' : Nat → Nat → Int32) (QO' : Nat → Option Nat) (QF' : Nat → Nat → Int32) (QA' : Nat → Nat → Nat → Int32), (ps = [wd_Mo cs mo mr (fun _ => none) mf' md' (gMo PG hq), fm 13 (fPr cs hq qr QO' QF' QA'), fm 8 (fPg cs PG)]) ∧ (PrN QF') ∧ ((mf' 2).toInt = (mf 2).toInt) ∧ (0 ≤ (mf' 10).toInt) ∧ ((mf' 10).toInt ≤ (mf 10).toInt) ∧ ((mf' 3).toInt = (mf 3).toInt) ∧ (Md1 md md') ∧ (((p0.toInt < 0 ∨ 8 ≤ p0.toInt ∨ p2.toInt < 0 ∨ 100 < p2.toInt ∨ p3.toInt < 0 ∨ 512 < p3.toInt ∨ (mf 10).toInt < p2.toInt + 30) ∧ (mf' 10).toInt = (mf 10).toInt) ∨ (0 ≤ p0.toInt ∧ p0.toInt < 8 ∧ 0 ≤ p2.toInt ∧ p2.toInt ≤ 100 ∧ 0 ≤ p3.toInt ∧ p3.toInt ≤ 512 ∧ p2.toInt + 30 ≤ (mf 10).toInt ∧ (((PG p0.toNatClampNeg).xf 66).toInt = 0 ∧ (mf' 10).toInt = (mf 10).toInt ∨ 1 ≤ ((PG p0.toNatClampNeg).xf 66).toInt ∧ (mf' 10).toInt = (mf 10).toInt - p2.toInt - 30)))) := by
  refine px_enter (by decide) (Nat.le_of_ble_eq_true rfl) ?_
  intro p e s m below meth c A ls hAe S hr hlk hnm hA hT hX hw hl
  have hl : lv_has ls 8 [(0, .ref mo), (1, .int p0), (2, .int p1), (3, .int p2), (4, .int p3)] := hl
  have lp0 := Int32.le_toInt p0
  have up0 := Int32.toInt_lt p0
  have lp1 := Int32.le_toInt p1
  have up1 := Int32.toInt_lt p1
  have lp2 := Int32.le_toInt p2
  have up2 := Int32.toInt_lt p2
  have lp3 := Int32.le_toInt p3
  have up3 := Int32.toInt_lt p3
  have cstm1 : ((-1) : Int32).toInt = (-1) := rfl
  have cst0 : (0 : Int32).toInt = 0 := rfl
  have cst1 : (1 : Int32).toInt = 1 := rfl
  have cst2 : (2 : Int32).toInt = 2 := rfl
  have cst3 : (3 : Int32).toInt = 3 := rfl
  have cst6 : (6 : Int32).toInt = 6 := rfl
  have cst13 : (13 : Int32).toInt = 13 := rfl
  have cst30 : (30 : Int32).toInt = 30 := rfl
  have cst100 : (100 : Int32).toInt = 100 := rfl
  have cst512 : (512 : Int32).toInt = 512 := rfl
  have hX : (fun A U H => (∀ j : Nat, j < 8 → oP A (PG j).g U H) ∧ (oLW A U H)) A s s.heap := by rw [hAe]; exact hX
  obtain ⟨hGG, hSh⟩ := hX
  have hmdq : Md1 md md := rfl
  have J263 : ∀ (n_263 : Nat) (mf_263 : Nat → Int32) (md_263 : Nat → Nat → Int32) (QO_263 : Nat → Option Nat) (QF_263 : Nat → Nat → Int32) (QA_263 : Nat → Nat → Nat → Int32) (RR_263 : Nat → Int) (x263_6 : Int32) (H : Heap) (locs : List Loc) (ls : Array Slot), (PrA PG RR_263 QO_263 QF_263 QA_263) → ((mf_263 7).toInt = p2.toInt) → ((mf_263 8).toInt = p3.toInt) → (0 ≤ p2.toInt) → (p2.toInt ≤ 100) → (0 ≤ p3.toInt) → (p3.toInt ≤ 512) → ((mf_263 2).toInt = (mf 2).toInt) → (0 ≤ (mf_263 10).toInt) → ((mf_263 10).toInt ≤ (mf 10).toInt) → (0 ≤ p0.toInt) → (p0.toInt < 8) → ((mf_263 3).toInt = (mf 3).toInt) → ((mf_263 10).toInt = (mf 10).toInt - p2.toInt - 30) → (1 ≤ ((PG p0.toNatClampNeg).xf 66).toInt) → (Md1 md md_263) → (0 ≤ x263_6.toInt) → (x263_6.toInt ≤ 13) → 13 - x263_6.toInt < (n_263 : Int) → pw D A s.heap H locs [wd_Mo cs mo mr (fun _ => none) mf_263 md_263 (gMo PG hq), fm 13 (fPr cs hq qr QO_263 QF_263 QA_263), fm 8 (fPg cs PG)] → lv_has ls 8 [(0, .ref mo), (1, .int p0), (2, .int p1), (3, .int p2), (4, .int p3), (6, .int x263_6)] → W p l e { frames := 14, cells := 0, slots := 0, locals := 600 } s m [.ref mo, .int p0, .int p1, .int p2, .int p3].toArray below meth c H locs 0 0 (MQ below (va_Qi (fun v ps => ∃ (mf' : Nat → Int32) (md' : Nat → Nat → Int32) (QO' : Nat → Option Nat) (QF' : Nat → Nat → Int32) (QA' : Nat → Nat → Nat → Int32), (ps = [wd_Mo cs mo mr (fun _ => none) mf' md' (gMo PG hq), fm 13 (fPr cs hq qr QO' QF' QA'), fm 8 (fPg cs PG)]) ∧ (PrN QF') ∧ ((mf' 2).toInt = (mf 2).toInt) ∧ (0 ≤ (mf' 10).toInt) ∧ ((mf' 10).toInt ≤ (mf 10).toInt) ∧ ((mf' 3).toInt = (mf 3).toInt) ∧ (Md1 md md') ∧ (((p0.toInt < 0 ∨ 8 ≤ p0.toInt ∨ p2.toInt < 0 ∨ 100 < p2.toInt ∨ p3.toInt < 0 ∨ 512 < p3.toInt ∨ (mf 10).toInt < p2.toInt + 30) ∧ (mf' 10).toInt = (mf 10).toInt) ∨ (0 ≤ p0.toInt ∧ p0.toInt < 8 ∧ 0 ≤ p2.toInt ∧ p2.toInt ≤ 100 ∧ 0 ≤ p3.toInt ∧ p3.toInt ≤ 512 ∧ p2.toInt + 30 ≤ (mf 10).toInt ∧ (((PG p0.toNatClampNeg).xf 66).toInt = 0 ∧ (mf' 10).toInt = (mf 10).toInt ∨ 1 ≤ ((PG p0.toNatClampNeg).xf 66).toInt ∧ (mf' 10).toInt = (mf 10).toInt - p2.toInt - 30)))) (pc_B D (va_A ([wd_Mo cs mo mr (fun _ => none) mf md (gMo PG hq), fm 13 (fPr cs hq qr QO QF QA), fm 8 (fPg cs PG)] : List va_W).flatten s.heap.size)) (va_A ([wd_Mo cs mo mr (fun _ => none) mf md (gMo PG hq), fm 13 (fPr cs hq qr QO QF QA), fm 8 (fPg cs PG)] : List va_W).flatten s.heap.size)) [.ref mo, .int p0, .int p1, .int p2, .int p3].toArray s 0 0 A) (F0 m 263 ls []) := by
    intro  n_263
    induction n_263 with
    | zero =>
      intro mf_263 md_263 QO_263 QF_263 QA_263 RR_263 x263_6 H locs ls k263_0 k263_1 k263_2 k263_3 k263_4 k263_5 k263_6 k263_7 k263_8 k263_9 k263_10 k263_11 k263_12 k263_13 k263_14 k263_15 k263_16 k263_17 hm hw hl
      have lx263_6 := Int32.le_toInt x263_6
      have ux263_6 := Int32.toInt_lt x263_6
      have hpr := k263_0
      have hsum := hpr.sum
      have hmdq := k263_15
      exact absurd hm (by omega)
    | succ n_263 ih263 =>
      intro mf_263 md_263 QO_263 QF_263 QA_263 RR_263 x263_6 H locs ls k263_0 k263_1 k263_2 k263_3 k263_4 k263_5 k263_6 k263_7 k263_8 k263_9 k263_10 k263_11 k263_12 k263_13 k263_14 k263_15 k263_16 k263_17 hm hw hl
      have lx263_6 := Int32.le_toInt x263_6
      have ux263_6 := Int32.toInt_lt x263_6
      have hpr := k263_0
      have hsum := hpr.sum
      have hmdq := k263_15
      refine lv_iload S.x S.b d_Mo_run_263 (lv_at hl 5 rfl) ?_
      refine lv_bipush (v := 13) S.x S.b d_Mo_run_265 (by decide) ?_
      refine lv_icmp_ge (tgt := 302) S.x S.b d_Mo_run_267 (by decide) (fun c1 => ?_) (fun c1 => ?_)
      · have nc1 : (13 : Int) ≤ x263_6.toInt := (i_le (x := 13) (y := x263_6)).mp c1
        refine lv_aload_n S.x S.b d_Mo_run_302 rfl (lv_at hl 0 rfl) ?_
        refine px_get S k_Mo hT hw 0 0 5 (v := .ref (mr 5)) rfl rfl rfl (by decide) m11_83 d_Mo_run_303 ?_
        refine lv_iconst (v := 0) S.x S.b d_Mo_run_306 (by decide) ?_
        refine px_aaldS S hT hw 0 3 10 (n := 13) (f := ((gMo PG hq) 5)) rfl rfl rfl (x := 0) (vp_in_iff.mpr (by constructor <;> omega)) (sk := (hq (0 : Int32).toNatClampNeg)) rfl d_Mo_run_307 ?_
        have hw : pw D A s.heap _ _ [wd_Mo cs mo mr (fun _ => none) mf_263 md_263 (gMo PG hq), fm 8 (fPg cs PG), fm 13 (fPr cs hq qr QO_263 QF_263 QA_263)] := hw.sub [0, 2, 1] rfl rfl
        have hc3 := cl_nat (x := (0 : Int32)) (by first | exact oz_b1de7dbe7e cst0 | omega)
        have hi3 : (0 : Int32).toNatClampNeg < 13 := by first | exact oz_a63a387477 hc3 cst0 | omega
        have hw : pw D A s.heap _ _ [wd_Mo cs mo mr (fun _ => none) mf_263 md_263 (gMo PG hq), fm 8 (fPg cs PG), fo 13 (fPr cs hq qr QO_263 QF_263 QA_263) (0 : Int32).toNatClampNeg, wd_Mpr cs (hq (0 : Int32).toNatClampNeg) (qr (0 : Int32).toNatClampNeg) (fun _ => QO_263 (0 : Int32).toNatClampNeg) (QF_263 (0 : Int32).toNatClampNeg) (QA_263 (0 : Int32).toNatClampNeg) (fun _ _ => none)] := fm_out (pr := [wd_Mo cs mo mr (fun _ => none) mf_263 md_263 (gMo PG hq), fm 8 (fPg cs PG)]) (T := fPr cs hq qr QO_263 QF_263 QA_263) hw hi3
        have hps3 := hpr.1 (0 : Int32).toNatClampNeg hi3
        have hpb3 := hps3.1
        unfold PsB at hpb3
        refine px_get S k_Mpr hT hw 3 0 2 (v := .int ((QF_263 (0 : Int32).toNatClampNeg) 2)) rfl rfl rfl (by decide) m10_226 d_Mo_run_308 ?_
        have hw : pw D A s.heap _ _ [wd_Mo cs mo mr (fun _ => none) mf_263 md_263 (gMo PG hq), fm 8 (fPg cs PG), fm 13 (fPr cs hq qr QO_263 QF_263 QA_263)] := fm_back (pr := [wd_Mo cs mo mr (fun _ => none) mf_263 md_263 (gMo PG hq), fm 8 (fPg cs PG)]) (T := fPr cs hq qr QO_263 QF_263 QA_263) hw hi3
        have hw : pw D A s.heap _ _ [wd_Mo cs mo mr (fun _ => none) mf_263 md_263 (gMo PG hq), fm 13 (fPr cs hq qr QO_263 QF_263 QA_263), fm 8 (fPg cs PG)] := hw.sub [0, 2, 1] rfl rfl
        exact px_iret (v := ((QF_263 (0 : Int32).toNatClampNeg) 2)) S hr rfl hlk hAe hw (Nat.le_of_ble_eq_true rfl) (Nat.le_of_ble_eq_true rfl) (⟨mf_263, md_263, QO_263, QF_263, QA_263, rfl, (show PrN QF_263 from hpr.nn), (show (mf_263 2).toInt = (mf 2).toInt from by first | exact k263_7 | omega), (show 0 ≤ (mf_263 10).toInt from by first | exact k263_8 | omega), (show (mf_263 10).toInt ≤ (mf 10).toInt from by first | exact k263_9 | omega), (show (mf_263 3).toInt = (mf 3).toInt from by first | exact k263_12 | omega), (show Md1 md md_263 from hmdq), (show ((p0.toInt < 0 ∨ 8 ≤ p0.toInt ∨ p2.toInt < 0 ∨ 100 < p2.toInt ∨ p3.toInt < 0 ∨ 512 < p3.toInt ∨ (mf 10).toInt < p2.toInt + 30) ∧ (mf_263 10).toInt = (mf 10).toInt) ∨ (0 ≤ p0.toInt ∧ p0.toInt < 8 ∧ 0 ≤ p2.toInt ∧ p2.toInt ≤ 100 ∧ 0 ≤ p3.toInt ∧ p3.toInt ≤ 512 ∧ p2.toInt + 30 ≤ (mf 10).toInt ∧ (((PG p0.toNatClampNeg).xf 66).toInt = 0 ∧ (mf_263 10).toInt = (mf 10).toInt ∨ 1 ≤ ((PG p0.toNatClampNeg).xf 66).toInt ∧ (mf_263 10).toInt = (mf 10).toInt - p2.toInt - 30)) from by omega)⟩) d_Mo_run_311
      · have nc1 : ¬ (13 : Int) ≤ x263_6.toInt := mt (i_le (x := 13) (y := x263_6)).mpr c1
        refine lv_aload_n S.x S.b d_Mo_run_270 rfl (lv_at hl 0 rfl) ?_
        refine px_get S k_Mo hT hw 0 0 5 (v := .ref (mr 5)) rfl rfl rfl (by decide) m11_83 d_Mo_run_271 ?_
        refine lv_iload S.x S.b d_Mo_run_274 (lv_at hl 5 rfl) ?_
        refine px_aaldS S hT hw 0 3 10 (n := 13) (f := ((gMo PG hq) 5)) rfl rfl rfl (x := x263_6) (vp_in_iff.mpr (by first | exact oz_10a7a22e11 k263_16 nc1 | (constructor <;> omega))) (sk := (hq x263_6.toNatClampNeg)) rfl d_Mo_run_276 ?_
        have hw : pw D A s.heap _ _ [wd_Mo cs mo mr (fun _ => none) mf_263 md_263 (gMo PG hq), fm 8 (fPg cs PG), fm 13 (fPr cs hq qr QO_263 QF_263 QA_263)] := hw.sub [0, 2, 1] rfl rfl
        have hc4 := cl_nat (x := x263_6) (by first | exact k263_16 | omega)
        have hi4 : x263_6.toNatClampNeg < 13 := by first | exact oz_81bc16641b hc4 nc1 | omega
        have hw : pw D A s.heap _ _ [wd_Mo cs mo mr (fun _ => none) mf_263 md_263 (gMo PG hq), fm 8 (fPg cs PG), fo 13 (fPr cs hq qr QO_263 QF_263 QA_263) x263_6.toNatClampNeg, wd_Mpr cs (hq x263_6.toNatClampNeg) (qr x263_6.toNatClampNeg) (fun _ => QO_263 x263_6.toNatClampNeg) (QF_263 x263_6.toNatClampNeg) (QA_263 x263_6.toNatClampNeg) (fun _ _ => none)] := fm_out (pr := [wd_Mo cs mo mr (fun _ => none) mf_263 md_263 (gMo PG hq), fm 8 (fPg cs PG)]) (T := fPr cs hq qr QO_263 QF_263 QA_263) hw hi4
        have hps4 := hpr.1 x263_6.toNatClampNeg hi4
        have hpb4 := hps4.1
        unfold PsB at hpb4
        refine px_calli (pr := [wd_Mo cs mo mr (fun _ => none) mf_263 md_263 (gMo PG hq), fm 8 (fPg cs PG), fo 13 (fPr cs hq qr QO_263 QF_263 QA_263) x263_6.toNatClampNeg]) (px_runV (As := []) (rest := []) S (c_mq_isGoing l D cs (hq x263_6.toNatClampNeg) (qr x263_6.toNatClampNeg) (fun _ _ => none) (fun _ => QO_263 x263_6.toNatClampNeg) (QF_263 x263_6.toNatClampNeg) (QA_263 x263_6.toNatClampNeg)    _) hT (pr := [wd_Mo cs mo mr (fun _ => none) mf_263 md_263 (gMo PG hq), fm 8 (fPg cs PG), fo 13 (fPr cs hq qr QO_263 QF_263 QA_263) x263_6.toNatClampNeg]) (pcs := [wd_Mpr cs (hq x263_6.toNatClampNeg) (qr x263_6.toNatClampNeg) (fun _ => QO_263 x263_6.toNatClampNeg) (QF_263 x263_6.toNatClampNeg) (QA_263 x263_6.toNatClampNeg) (fun _ _ => none)]) hw px_X.tt (px_recv hT hw 3 0 rfl rfl rfl) m13_165 m13_162 m13_163 m13_164 m1_22 q_Mpr_isGoing ⟨Nat.le_of_ble_eq_true rfl, Nat.le_of_ble_eq_true rfl⟩ hl.1 rfl (Nat.le_of_ble_eq_true rfl) d_Mo_run_277 ⟨Nat.le_of_ble_eq_true rfl, Nat.le_of_ble_eq_true rfl⟩) hw hA (fun v6 p5 H locs hp5 hw => ?_)
        obtain ⟨rfl, e7, e8, e9, e10, e11⟩ := hp5
        have e7 : 0 ≤ v6.toInt := e7
        have e8 : v6.toInt ≤ 1 := e8
        have e9 : v6.toInt = 1 → ((QF_263 x263_6.toNatClampNeg) 1).toInt ≠ 0 := e9
        have e10 : v6.toInt = 1 → ((QF_263 x263_6.toNatClampNeg) 2).toInt = -2 := e10
        have e11 : ((QF_263 x263_6.toNatClampNeg) 1).toInt ≠ 0 → ((QF_263 x263_6.toNatClampNeg) 2).toInt = -2 → v6.toInt = 1 := e11
        have hw : pw D A s.heap H locs [wd_Mo cs mo mr (fun _ => none) mf_263 md_263 (gMo PG hq), fm 8 (fPg cs PG), fo 13 (fPr cs hq qr QO_263 QF_263 QA_263) x263_6.toNatClampNeg, wd_Mpr cs (hq x263_6.toNatClampNeg) (qr x263_6.toNatClampNeg) (fun _ => QO_263 x263_6.toNatClampNeg) (QF_263 x263_6.toNatClampNeg) (QA_263 x263_6.toNatClampNeg) (fun _ _ => none)] := hw
        have lv6 := Int32.le_toInt v6
        have uv6 := Int32.toInt_lt v6
        refine lv_if_eq (tgt := 296) S.x S.b d_Mo_run_280 (by decide) (fun c12 => ?_) (fun c12 => ?_)
        · have nc12 : v6.toInt = (0 : Int) := (i_eq (x := v6) (y := 0)).mp c12
          obtain ⟨z14, ez14⟩ : ∃ y : Int32, y = x263_6 + 1 := ⟨_, rfl⟩
          have tz14 : z14.toInt = (x263_6.toInt + 1 + 2147483648) % 4294967296 - 2147483648 := by rw [ez14]; exact i_add x263_6 1
          have lz14 := Int32.le_toInt z14
          have uz14 := Int32.toInt_lt z14
          try replace tz14 : z14.toInt = x263_6.toInt + 1 := by omega
          refine lv_iinc (v := z14) (lv' := [(6, .int z14), (0, .ref mo), (1, .int p0), (2, .int p1), (3, .int p2), (4, .int p3)]) S.x S.b d_Mo_run_296 hl (k := 5) rfl (by rw [ez14]; rfl) (by decide) rfl (fun ls hl => ?_)
          refine lv_goto (tgt := 263) S.x S.b d_Mo_run_299 (by decide) ?_
          have hw : pw D A s.heap _ _ [wd_Mo cs mo mr (fun _ => none) mf_263 md_263 (gMo PG hq), fm 8 (fPg cs PG), fm 13 (fPr cs hq qr QO_263 QF_263 QA_263)] := fm_back (pr := [wd_Mo cs mo mr (fun _ => none) mf_263 md_263 (gMo PG hq), fm 8 (fPg cs PG)]) (T := fPr cs hq qr QO_263 QF_263 QA_263) hw hi4
          have hw : pw D A s.heap _ _ [wd_Mo cs mo mr (fun _ => none) mf_263 md_263 (gMo PG hq), fm 13 (fPr cs hq qr QO_263 QF_263 QA_263), fm 8 (fPg cs PG)] := hw.sub [0, 2, 1] rfl rfl
          exact ih263 mf_263 md_263 QO_263 QF_263 QA_263 RR_263 z14 _ _ ls (show PrA PG RR_263 QO_263 QF_263 QA_263 from hpr) (show (mf_263 7).toInt = p2.toInt from by first | exact k263_1 | omega) (show (mf_263 8).toInt = p3.toInt from by first | exact k263_2 | omega) (show 0 ≤ p2.toInt from by first | exact k263_3 | omega) (show p2.toInt ≤ 100 from by first | exact k263_4 | omega) (show 0 ≤ p3.toInt from by first | exact k263_5 | omega) (show p3.toInt ≤ 512 from by first | exact k263_6 | omega) (show (mf_263 2).toInt = (mf 2).toInt from by first | exact k263_7 | omega) (show 0 ≤ (mf_263 10).toInt from by first | exact k263_8 | omega) (show (mf_263 10).toInt ≤ (mf 10).toInt from by first | exact k263_9 | omega) (show 0 ≤ p0.toInt from by first | exact k263_10 | omega) (show p0.toInt < 8 from by first | exact k263_11 | omega) (show (mf_263 3).toInt = (mf 3).toInt from by first | exact k263_12 | omega) (show (mf_263 10).toInt = (mf 10).toInt - p2.toInt - 30 from by first | exact k263_13 | omega) (show 1 ≤ ((PG p0.toNatClampNeg).xf 66).toInt from by first | exact k263_14 | omega) (show Md1 md md_263 from hmdq) (show 0 ≤ z14.toInt from by first | exact oz_ae613611c0 tz14 k263_16 | omega) (show z14.toInt ≤ 13 from by first | exact oz_d342e04a5c tz14 nc1 | omega) (show 13 - z14.toInt < (n_263 : Int) from by first | exact oz_6680d080b4 hm tz14 | omega) hw (lv_sub hl [1, 2, 3, 4, 5, 0] rfl)
        · have nc12 : ¬ v6.toInt = (0 : Int) := mt (i_eq (x := v6) (y := 0)).mpr c12
          refine lv_aload_n S.x S.b d_Mo_run_283 rfl (lv_at hl 0 rfl) ?_
          refine px_get S k_Mo hT hw 0 0 5 (v := .ref (mr 5)) rfl rfl rfl (by decide) m11_83 d_Mo_run_284 ?_
          refine lv_iload S.x S.b d_Mo_run_287 (lv_at hl 5 rfl) ?_
          refine px_aaldS S hT hw 0 3 10 (n := 13) (f := ((gMo PG hq) 5)) rfl rfl rfl (x := x263_6) (vp_in_iff.mpr (by first | exact oz_10a7a22e11 k263_16 nc1 | (constructor <;> omega))) (sk := (hq x263_6.toNatClampNeg)) rfl d_Mo_run_289 ?_
          refine lv_bipush (v := 6) S.x S.b d_Mo_run_290 (by decide) ?_
          refine lv_iconst (v := 0) S.x S.b d_Mo_run_292 (by decide) ?_
          refine px_callv (pr := [wd_Mo cs mo mr (fun _ => none) mf_263 md_263 (gMo PG hq), fm 8 (fPg cs PG), fo 13 (fPr cs hq qr QO_263 QF_263 QA_263) x263_6.toNatClampNeg]) (px_runV (As := [.int 6, .int 0]) (rest := []) S (c_mq_end l D cs (hq x263_6.toNatClampNeg) (qr x263_6.toNatClampNeg) (fun _ _ => none) (fun _ => QO_263 x263_6.toNatClampNeg) (QA_263 x263_6.toNatClampNeg) (QF_263 x263_6.toNatClampNeg) 6 0   _) hT (pr := [wd_Mo cs mo mr (fun _ => none) mf_263 md_263 (gMo PG hq), fm 8 (fPg cs PG), fo 13 (fPr cs hq qr QO_263 QF_263 QA_263) x263_6.toNatClampNeg]) (pcs := [wd_Mpr cs (hq x263_6.toNatClampNeg) (qr x263_6.toNatClampNeg) (fun _ => QO_263 x263_6.toNatClampNeg) (QF_263 x263_6.toNatClampNeg) (QA_263 x263_6.toNatClampNeg) (fun _ _ => none)]) hw px_X.tt (px_recv hT hw 3 0 rfl rfl rfl) m13_177 m14_35 m13_175 m13_176 m1_22 q_Mpr_end ⟨Nat.le_of_ble_eq_true rfl, Nat.le_of_ble_eq_true rfl⟩ hl.1 rfl (Nat.le_of_ble_eq_true rfl) d_Mo_run_293 ⟨Nat.le_of_ble_eq_true rfl, Nat.le_of_ble_eq_true rfl⟩) hw hA (fun p17 H locs hp17 hw => ?_)
          obtain ⟨qf16, rfl, e19, e20, e21, e22, e23, e24, e25, e26, e27, e28, e29, e30, e31, e32⟩ := hp17
          have e19 : (qf16 2).toInt = (6 : Int) := e19
          have e20 : (qf16 1).toInt = ((QF_263 x263_6.toNatClampNeg) 1).toInt := e20
          have e21 : (qf16 4).toInt = ((QF_263 x263_6.toNatClampNeg) 4).toInt := e21
          have e22 : (qf16 5).toInt = ((QF_263 x263_6.toNatClampNeg) 5).toInt := e22
          have e23 : (qf16 6).toInt = ((QF_263 x263_6.toNatClampNeg) 6).toInt := e23
          have e24 : (qf16 7).toInt = ((QF_263 x263_6.toNatClampNeg) 7).toInt := e24
          have e25 : (qf16 10).toInt = ((QF_263 x263_6.toNatClampNeg) 10).toInt := e25
          have e26 : (qf16 11).toInt = ((QF_263 x263_6.toNatClampNeg) 11).toInt := e26
          have e27 : (qf16 12).toInt = ((QF_263 x263_6.toNatClampNeg) 12).toInt := e27
          have e28 : (qf16 13).toInt = ((QF_263 x263_6.toNatClampNeg) 13).toInt := e28
          have e29 : (qf16 14).toInt = ((QF_263 x263_6.toNatClampNeg) 14).toInt := e29
          have e30 : (qf16 21).toInt = ((QF_263 x263_6.toNatClampNeg) 21).toInt := e30
          have e31 : (qf16 23).toInt = ((QF_263 x263_6.toNatClampNeg) 23).toInt := e31
          have e32 : (qf16 24).toInt = ((QF_263 x263_6.toNatClampNeg) 24).toInt := e32
          have hw : pw D A s.heap H locs [wd_Mo cs mo mr (fun _ => none) mf_263 md_263 (gMo PG hq), fm 8 (fPg cs PG), fo 13 (fPr cs hq qr QO_263 QF_263 QA_263) x263_6.toNatClampNeg, wd_Mpr cs (hq x263_6.toNatClampNeg) (qr x263_6.toNatClampNeg) (fun _ => QO_263 x263_6.toNatClampNeg) qf16 (QA_263 x263_6.toNatClampNeg) (fun _ _ => none)] := hw
          obtain ⟨z33, ez33⟩ : ∃ y : Int32, y = x263_6 + 1 := ⟨_, rfl⟩
          have tz33 : z33.toInt = (x263_6.toInt + 1 + 2147483648) % 4294967296 - 2147483648 := by rw [ez33]; exact i_add x263_6 1
          have lz33 := Int32.le_toInt z33
          have uz33 := Int32.toInt_lt z33
          try replace tz33 : z33.toInt = x263_6.toInt + 1 := by omega
          refine lv_iinc (v := z33) (lv' := [(6, .int z33), (0, .ref mo), (1, .int p0), (2, .int p1), (3, .int p2), (4, .int p3)]) S.x S.b d_Mo_run_296 hl (k := 5) rfl (by rw [ez33]; rfl) (by decide) rfl (fun ls hl => ?_)
          refine lv_goto (tgt := 263) S.x S.b d_Mo_run_299 (by decide) ?_
          have hw := fpr_in (pr := [wd_Mo cs mo mr (fun _ => none) mf_263 md_263 (gMo PG hq), fm 8 (fPg cs PG)]) hw hi4
          obtain ⟨QO34, hu_QO34⟩ : ∃ y : Nat → Option Nat, y = va_up QO_263 x263_6.toNatClampNeg ((fun _ => QO_263 x263_6.toNatClampNeg) 0) := ⟨_, rfl⟩
          obtain ⟨QF35, hu_QF35⟩ : ∃ y : Nat → Nat → Int32, y = va_up QF_263 x263_6.toNatClampNeg qf16 := ⟨_, rfl⟩
          obtain ⟨QA36, hu_QA36⟩ : ∃ y : Nat → Nat → Nat → Int32, y = va_up QA_263 x263_6.toNatClampNeg (QA_263 x263_6.toNatClampNeg) := ⟨_, rfl⟩
          have hw : pw D A s.heap _ _ [wd_Mo cs mo mr (fun _ => none) mf_263 md_263 (gMo PG hq), fm 8 (fPg cs PG), fm 13 (fPr cs hq qr QO34 QF35 QA36)] := (by rw [hu_QO34, hu_QF35, hu_QA36]; exact hw)
          have hpr : PrA PG RR_263 QO34 QF35 QA36 := (by rw [hu_QO34, hu_QF35, hu_QA36]; exact PrA.up hpr (PsR.en hps4 (f' := qf16) (show (0 ≤ (qf16 1).toInt ∧ (qf16 1).toInt ≤ 1) ∧ (0 ≤ (qf16 21).toInt ∧ (qf16 21).toInt ≤ 4) ∧ (0 ≤ (qf16 23).toInt ∧ (qf16 23).toInt ≤ 4) ∧ (0 ≤ (qf16 24).toInt ∧ (qf16 24).toInt ≤ 1000000) ∧ (0 ≤ (qf16 6).toInt ∧ (qf16 6).toInt ≤ 3) ∧ (0 ≤ (qf16 7).toInt ∧ (qf16 7).toInt ≤ 1) from by omega) (by omega) (by omega)) (show (qf16 1).toInt = (QF_263 x263_6.toNatClampNeg 1).toInt from by first | exact oz_1811ac7fe4 e20 | omega) (show (QF_263 x263_6.toNatClampNeg 6).toInt ≤ (qf16 6).toInt from by first | exact oz_f9b42d1b56 e23 | omega))
          have hw : pw D A s.heap _ _ [wd_Mo cs mo mr (fun _ => none) mf_263 md_263 (gMo PG hq), fm 13 (fPr cs hq qr QO34 QF35 QA36), fm 8 (fPg cs PG)] := hw.sub [0, 2, 1] rfl rfl
          exact ih263 mf_263 md_263 QO34 QF35 QA36 RR_263 z33 _ _ ls (show PrA PG RR_263 QO34 QF35 QA36 from hpr) (show (mf_263 7).toInt = p2.toInt from by first | exact k263_1 | omega) (show (mf_263 8).toInt = p3.toInt from by first | exact k263_2 | omega) (show 0 ≤ p2.toInt from by first | exact k263_3 | omega) (show p2.toInt ≤ 100 from by first | exact k263_4 | omega) (show 0 ≤ p3.toInt from by first | exact k263_5 | omega) (show p3.toInt ≤ 512 from by first | exact k263_6 | omega) (show (mf_263 2).toInt = (mf 2).toInt from by first | exact k263_7 | omega) (show 0 ≤ (mf_263 10).toInt from by first | exact k263_8 | omega) (show (mf_263 10).toInt ≤ (mf 10).toInt from by first | exact k263_9 | omega) (show 0 ≤ p0.toInt from by first | exact k263_10 | omega) (show p0.toInt < 8 from by first | exact k263_11 | omega) (show (mf_263 3).toInt = (mf 3).toInt from by first | exact k263_12 | omega) (show (mf_263 10).toInt = (mf 10).toInt - p2.toInt - 30 from by first | exact k263_13 | omega) (show 1 ≤ ((PG p0.toNatClampNeg).xf 66).toInt from by first | exact k263_14 | omega) (show Md1 md md_263 from hmdq) (show 0 ≤ z33.toInt from by first | exact oz_ae613611c0 tz33 k263_16 | omega) (show z33.toInt ≤ 13 from by first | exact oz_d342e04a5c tz33 nc1 | omega) (show 13 - z33.toInt < (n_263 : Int) from by first | exact oz_6680d080b4 hm tz33 | omega) hw (lv_sub hl [1, 2, 3, 4, 5, 0] rfl)
  have J187 : ∀ (n_187 : Nat) (mf_187 : Nat → Int32) (md_187 : Nat → Nat → Int32) (QO_187 : Nat → Option Nat) (QF_187 : Nat → Nat → Int32) (QA_187 : Nat → Nat → Nat → Int32) (RR_187 : Nat → Int) (x187_5 : Int32) (H : Heap) (locs : List Loc) (ls : Array Slot), (PrA PG RR_187 QO_187 QF_187 QA_187) → ((mf_187 7).toInt = p2.toInt) → ((mf_187 8).toInt = p3.toInt) → (0 ≤ p2.toInt) → (p2.toInt ≤ 100) → (0 ≤ p3.toInt) → (p3.toInt ≤ 512) → ((mf_187 2).toInt = (mf 2).toInt) → (0 ≤ (mf_187 10).toInt) → ((mf_187 10).toInt ≤ (mf 10).toInt) → (0 ≤ p0.toInt) → (p0.toInt < 8) → ((mf_187 3).toInt = (mf 3).toInt) → ((mf_187 10).toInt = (mf 10).toInt - p2.toInt - 30) → (1 ≤ ((PG p0.toNatClampNeg).xf 66).toInt) → (Md1 md md_187) → (0 ≤ x187_5.toInt) → (x187_5.toInt ≤ 1) → 2 * sumR RR_187 13 + x187_5.toInt < (n_187 : Int) → pw D A s.heap H locs [wd_Mo cs mo mr (fun _ => none) mf_187 md_187 (gMo PG hq), fm 13 (fPr cs hq qr QO_187 QF_187 QA_187), fm 8 (fPg cs PG)] → lv_has ls 8 [(0, .ref mo), (1, .int p0), (2, .int p1), (3, .int p2), (4, .int p3), (5, .int x187_5)] → W p l e { frames := 14, cells := 0, slots := 0, locals := 600 } s m [.ref mo, .int p0, .int p1, .int p2, .int p3].toArray below meth c H locs 0 0 (MQ below (va_Qi (fun v ps => ∃ (mf' : Nat → Int32) (md' : Nat → Nat → Int32) (QO' : Nat → Option Nat) (QF' : Nat → Nat → Int32) (QA' : Nat → Nat → Nat → Int32), (ps = [wd_Mo cs mo mr (fun _ => none) mf' md' (gMo PG hq), fm 13 (fPr cs hq qr QO' QF' QA'), fm 8 (fPg cs PG)]) ∧ (PrN QF') ∧ ((mf' 2).toInt = (mf 2).toInt) ∧ (0 ≤ (mf' 10).toInt) ∧ ((mf' 10).toInt ≤ (mf 10).toInt) ∧ ((mf' 3).toInt = (mf 3).toInt) ∧ (Md1 md md') ∧ (((p0.toInt < 0 ∨ 8 ≤ p0.toInt ∨ p2.toInt < 0 ∨ 100 < p2.toInt ∨ p3.toInt < 0 ∨ 512 < p3.toInt ∨ (mf 10).toInt < p2.toInt + 30) ∧ (mf' 10).toInt = (mf 10).toInt) ∨ (0 ≤ p0.toInt ∧ p0.toInt < 8 ∧ 0 ≤ p2.toInt ∧ p2.toInt ≤ 100 ∧ 0 ≤ p3.toInt ∧ p3.toInt ≤ 512 ∧ p2.toInt + 30 ≤ (mf 10).toInt ∧ (((PG p0.toNatClampNeg).xf 66).toInt = 0 ∧ (mf' 10).toInt = (mf 10).toInt ∨ 1 ≤ ((PG p0.toNatClampNeg).xf 66).toInt ∧ (mf' 10).toInt = (mf 10).toInt - p2.toInt - 30)))) (pc_B D (va_A ([wd_Mo cs mo mr (fun _ => none) mf md (gMo PG hq), fm 13 (fPr cs hq qr QO QF QA), fm 8 (fPg cs PG)] : List va_W).flatten s.heap.size)) (va_A ([wd_Mo cs mo mr (fun _ => none) mf md (gMo PG hq), fm 13 (fPr cs hq qr QO QF QA), fm 8 (fPg cs PG)] : List va_W).flatten s.heap.size)) [.ref mo, .int p0, .int p1, .int p2, .int p3].toArray s 0 0 A) (F0 m 187 ls []) := by
    intro  n_187
    induction n_187 with
    | zero =>
      intro mf_187 md_187 QO_187 QF_187 QA_187 RR_187 x187_5 H locs ls k187_0 k187_1 k187_2 k187_3 k187_4 k187_5 k187_6 k187_7 k187_8 k187_9 k187_10 k187_11 k187_12 k187_13 k187_14 k187_15 k187_16 k187_17 hm hw hl
      have lx187_5 := Int32.le_toInt x187_5
      have ux187_5 := Int32.toInt_lt x187_5
      have hpr := k187_0
      have hsum := hpr.sum
      have hmdq := k187_15
      exact absurd hm (by omega)
    | succ n_187 ih187 =>
      intro mf_187 md_187 QO_187 QF_187 QA_187 RR_187 x187_5 H locs ls k187_0 k187_1 k187_2 k187_3 k187_4 k187_5 k187_6 k187_7 k187_8 k187_9 k187_10 k187_11 k187_12 k187_13 k187_14 k187_15 k187_16 k187_17 hm hw hl
      have lx187_5 := Int32.le_toInt x187_5
      have ux187_5 := Int32.toInt_lt x187_5
      have hpr := k187_0
      have hsum := hpr.sum
      have hmdq := k187_15
      have J198 : ∀ (n_198 : Nat) (mf_198 : Nat → Int32) (md_198 : Nat → Nat → Int32) (QO_198 : Nat → Option Nat) (QF_198 : Nat → Nat → Int32) (QA_198 : Nat → Nat → Nat → Int32) (RR_198 : Nat → Int) (x198_5 x198_6 : Int32) (H : Heap) (locs : List Loc) (ls : Array Slot), (PrA PG RR_198 QO_198 QF_198 QA_198) → ((mf_198 7).toInt = p2.toInt) → ((mf_198 8).toInt = p3.toInt) → (0 ≤ p2.toInt) → (p2.toInt ≤ 100) → (0 ≤ p3.toInt) → (p3.toInt ≤ 512) → ((mf_198 2).toInt = (mf 2).toInt) → (0 ≤ (mf_198 10).toInt) → ((mf_198 10).toInt ≤ (mf 10).toInt) → (0 ≤ p0.toInt) → (p0.toInt < 8) → ((mf_198 3).toInt = (mf 3).toInt) → ((mf_198 10).toInt = (mf 10).toInt - p2.toInt - 30) → (1 ≤ ((PG p0.toNatClampNeg).xf 66).toInt) → (Md1 md md_198) → (0 ≤ x198_5.toInt) → (x198_5.toInt ≤ 1) → (0 ≤ x198_6.toInt) → (x198_6.toInt ≤ 13) → (sumR RR_198 13 + x198_5.toInt ≤ sumR RR_187 13) → (1 ≤ x187_5.toInt) → 13 - x198_6.toInt < (n_198 : Int) → pw D A s.heap H locs [wd_Mo cs mo mr (fun _ => none) mf_198 md_198 (gMo PG hq), fm 13 (fPr cs hq qr QO_198 QF_198 QA_198), fm 8 (fPg cs PG)] → lv_has ls 8 [(0, .ref mo), (1, .int p0), (2, .int p1), (3, .int p2), (4, .int p3), (5, .int x198_5), (6, .int x198_6)] → W p l e { frames := 14, cells := 0, slots := 0, locals := 600 } s m [.ref mo, .int p0, .int p1, .int p2, .int p3].toArray below meth c H locs 0 0 (MQ below (va_Qi (fun v ps => ∃ (mf' : Nat → Int32) (md' : Nat → Nat → Int32) (QO' : Nat → Option Nat) (QF' : Nat → Nat → Int32) (QA' : Nat → Nat → Nat → Int32), (ps = [wd_Mo cs mo mr (fun _ => none) mf' md' (gMo PG hq), fm 13 (fPr cs hq qr QO' QF' QA'), fm 8 (fPg cs PG)]) ∧ (PrN QF') ∧ ((mf' 2).toInt = (mf 2).toInt) ∧ (0 ≤ (mf' 10).toInt) ∧ ((mf' 10).toInt ≤ (mf 10).toInt) ∧ ((mf' 3).toInt = (mf 3).toInt) ∧ (Md1 md md') ∧ (((p0.toInt < 0 ∨ 8 ≤ p0.toInt ∨ p2.toInt < 0 ∨ 100 < p2.toInt ∨ p3.toInt < 0 ∨ 512 < p3.toInt ∨ (mf 10).toInt < p2.toInt + 30) ∧ (mf' 10).toInt = (mf 10).toInt) ∨ (0 ≤ p0.toInt ∧ p0.toInt < 8 ∧ 0 ≤ p2.toInt ∧ p2.toInt ≤ 100 ∧ 0 ≤ p3.toInt ∧ p3.toInt ≤ 512 ∧ p2.toInt + 30 ≤ (mf 10).toInt ∧ (((PG p0.toNatClampNeg).xf 66).toInt = 0 ∧ (mf' 10).toInt = (mf 10).toInt ∨ 1 ≤ ((PG p0.toNatClampNeg).xf 66).toInt ∧ (mf' 10).toInt = (mf 10).toInt - p2.toInt - 30)))) (pc_B D (va_A ([wd_Mo cs mo mr (fun _ => none) mf md (gMo PG hq), fm 13 (fPr cs hq qr QO QF QA), fm 8 (fPg cs PG)] : List va_W).flatten s.heap.size)) (va_A ([wd_Mo cs mo mr (fun _ => none) mf md (gMo PG hq), fm 13 (fPr cs hq qr QO QF QA), fm 8 (fPg cs PG)] : List va_W).flatten s.heap.size)) [.ref mo, .int p0, .int p1, .int p2, .int p3].toArray s 0 0 A) (F0 m 198 ls []) := by
        intro  n_198
        induction n_198 with
        | zero =>
          intro mf_198 md_198 QO_198 QF_198 QA_198 RR_198 x198_5 x198_6 H locs ls k198_0 k198_1 k198_2 k198_3 k198_4 k198_5 k198_6 k198_7 k198_8 k198_9 k198_10 k198_11 k198_12 k198_13 k198_14 k198_15 k198_16 k198_17 k198_18 k198_19 k198_20 k198_21 hm hw hl
          have lx198_5 := Int32.le_toInt x198_5
          have ux198_5 := Int32.toInt_lt x198_5
          have lx198_6 := Int32.le_toInt x198_6
          have ux198_6 := Int32.toInt_lt x198_6
          have hpr := k198_0
          have hsum := hpr.sum
          have hmdq := k198_15
          exact absurd hm (by omega)
        | succ n_198 ih198 =>
          intro mf_198 md_198 QO_198 QF_198 QA_198 RR_198 x198_5 x198_6 H locs ls k198_0 k198_1 k198_2 k198_3 k198_4 k198_5 k198_6 k198_7 k198_8 k198_9 k198_10 k198_11 k198_12 k198_13 k198_14 k198_15 k198_16 k198_17 k198_18 k198_19 k198_20 k198_21 hm hw hl
          have lx198_5 := Int32.le_toInt x198_5
          have ux198_5 := Int32.toInt_lt x198_5
          have lx198_6 := Int32.le_toInt x198_6
          have ux198_6 := Int32.toInt_lt x198_6
          have hpr := k198_0
          have hsum := hpr.sum
          have hmdq := k198_15
          refine lv_iload S.x S.b d_Mo_run_198 (lv_at hl 6 rfl) ?_
          refine lv_bipush (v := 13) S.x S.b d_Mo_run_200 (by decide) ?_
          refine lv_icmp_ge (tgt := 257) S.x S.b d_Mo_run_202 (by decide) (fun c37 => ?_) (fun c37 => ?_)
          · have nc37 : (13 : Int) ≤ x198_6.toInt := (i_le (x := 13) (y := x198_6)).mp c37
            refine lv_goto (tgt := 187) S.x S.b d_Mo_run_257 (by decide) ?_
            exact ih187 mf_198 md_198 QO_198 QF_198 QA_198 RR_198 x198_5 _ _ ls (show PrA PG RR_198 QO_198 QF_198 QA_198 from hpr) (show (mf_198 7).toInt = p2.toInt from by first | exact k198_1 | omega) (show (mf_198 8).toInt = p3.toInt from by first | exact k198_2 | omega) (show 0 ≤ p2.toInt from by first | exact k187_3 | omega) (show p2.toInt ≤ 100 from by first | exact k187_4 | omega) (show 0 ≤ p3.toInt from by first | exact k187_5 | omega) (show p3.toInt ≤ 512 from by first | exact k187_6 | omega) (show (mf_198 2).toInt = (mf 2).toInt from by first | exact k198_7 | omega) (show 0 ≤ (mf_198 10).toInt from by first | exact k198_8 | omega) (show (mf_198 10).toInt ≤ (mf 10).toInt from by first | exact k198_9 | omega) (show 0 ≤ p0.toInt from by first | exact k187_10 | omega) (show p0.toInt < 8 from by first | exact k187_11 | omega) (show (mf_198 3).toInt = (mf 3).toInt from by first | exact k198_12 | omega) (show (mf_198 10).toInt = (mf 10).toInt - p2.toInt - 30 from by first | exact k198_13 | omega) (show 1 ≤ ((PG p0.toNatClampNeg).xf 66).toInt from by first | exact k187_14 | omega) (show Md1 md md_198 from hmdq) (show 0 ≤ x198_5.toInt from by first | exact k198_16 | omega) (show x198_5.toInt ≤ 1 from by first | exact k198_17 | omega) (show 2 * sumR RR_198 13 + x198_5.toInt < (n_187 : Int) from by omega) hw (lv_sub hl [0, 1, 2, 3, 4, 5] rfl)
          · have nc37 : ¬ (13 : Int) ≤ x198_6.toInt := mt (i_le (x := 13) (y := x198_6)).mpr c37
            refine lv_aload_n S.x S.b d_Mo_run_205 rfl (lv_at hl 0 rfl) ?_
            refine px_get S k_Mo hT hw 0 0 5 (v := .ref (mr 5)) rfl rfl rfl (by decide) m11_83 d_Mo_run_206 ?_
            refine lv_iload S.x S.b d_Mo_run_209 (lv_at hl 6 rfl) ?_
            refine px_aaldS S hT hw 0 3 10 (n := 13) (f := ((gMo PG hq) 5)) rfl rfl rfl (x := x198_6) (vp_in_iff.mpr (by first | exact oz_10a7a22e11 k198_18 nc37 | (constructor <;> omega))) (sk := (hq x198_6.toNatClampNeg)) rfl d_Mo_run_211 ?_
            have hw : pw D A s.heap _ _ [wd_Mo cs mo mr (fun _ => none) mf_198 md_198 (gMo PG hq), fm 8 (fPg cs PG), fm 13 (fPr cs hq qr QO_198 QF_198 QA_198)] := hw.sub [0, 2, 1] rfl rfl
            have hc39 := cl_nat (x := x198_6) (by first | exact k198_18 | omega)
            have hi39 : x198_6.toNatClampNeg < 13 := by first | exact oz_81bc16641b hc39 nc37 | omega
            have hw : pw D A s.heap _ _ [wd_Mo cs mo mr (fun _ => none) mf_198 md_198 (gMo PG hq), fm 8 (fPg cs PG), fo 13 (fPr cs hq qr QO_198 QF_198 QA_198) x198_6.toNatClampNeg, wd_Mpr cs (hq x198_6.toNatClampNeg) (qr x198_6.toNatClampNeg) (fun _ => QO_198 x198_6.toNatClampNeg) (QF_198 x198_6.toNatClampNeg) (QA_198 x198_6.toNatClampNeg) (fun _ _ => none)] := fm_out (pr := [wd_Mo cs mo mr (fun _ => none) mf_198 md_198 (gMo PG hq), fm 8 (fPg cs PG)]) (T := fPr cs hq qr QO_198 QF_198 QA_198) hw hi39
            have hps39 := hpr.1 x198_6.toNatClampNeg hi39
            have hpb39 := hps39.1
            unfold PsB at hpb39
            refine px_calli (pr := [wd_Mo cs mo mr (fun _ => none) mf_198 md_198 (gMo PG hq), fm 8 (fPg cs PG), fo 13 (fPr cs hq qr QO_198 QF_198 QA_198) x198_6.toNatClampNeg]) (px_runV (As := []) (rest := []) S (c_mq_isGoing l D cs (hq x198_6.toNatClampNeg) (qr x198_6.toNatClampNeg) (fun _ _ => none) (fun _ => QO_198 x198_6.toNatClampNeg) (QF_198 x198_6.toNatClampNeg) (QA_198 x198_6.toNatClampNeg)    _) hT (pr := [wd_Mo cs mo mr (fun _ => none) mf_198 md_198 (gMo PG hq), fm 8 (fPg cs PG), fo 13 (fPr cs hq qr QO_198 QF_198 QA_198) x198_6.toNatClampNeg]) (pcs := [wd_Mpr cs (hq x198_6.toNatClampNeg) (qr x198_6.toNatClampNeg) (fun _ => QO_198 x198_6.toNatClampNeg) (QF_198 x198_6.toNatClampNeg) (QA_198 x198_6.toNatClampNeg) (fun _ _ => none)]) hw px_X.tt (px_recv hT hw 3 0 rfl rfl rfl) m13_165 m13_162 m13_163 m13_164 m1_22 q_Mpr_isGoing ⟨Nat.le_of_ble_eq_true rfl, Nat.le_of_ble_eq_true rfl⟩ hl.1 rfl (Nat.le_of_ble_eq_true rfl) d_Mo_run_212 ⟨Nat.le_of_ble_eq_true rfl, Nat.le_of_ble_eq_true rfl⟩) hw hA (fun v41 p40 H locs hp40 hw => ?_)
            obtain ⟨rfl, e42, e43, e44, e45, e46⟩ := hp40
            have e42 : 0 ≤ v41.toInt := e42
            have e43 : v41.toInt ≤ 1 := e43
            have e44 : v41.toInt = 1 → ((QF_198 x198_6.toNatClampNeg) 1).toInt ≠ 0 := e44
            have e45 : v41.toInt = 1 → ((QF_198 x198_6.toNatClampNeg) 2).toInt = -2 := e45
            have e46 : ((QF_198 x198_6.toNatClampNeg) 1).toInt ≠ 0 → ((QF_198 x198_6.toNatClampNeg) 2).toInt = -2 → v41.toInt = 1 := e46
            have hw : pw D A s.heap H locs [wd_Mo cs mo mr (fun _ => none) mf_198 md_198 (gMo PG hq), fm 8 (fPg cs PG), fo 13 (fPr cs hq qr QO_198 QF_198 QA_198) x198_6.toNatClampNeg, wd_Mpr cs (hq x198_6.toNatClampNeg) (qr x198_6.toNatClampNeg) (fun _ => QO_198 x198_6.toNatClampNeg) (QF_198 x198_6.toNatClampNeg) (QA_198 x198_6.toNatClampNeg) (fun _ _ => none)] := hw
            have lv41 := Int32.le_toInt v41
            have uv41 := Int32.toInt_lt v41
            refine lv_if_eq (tgt := 231) S.x S.b d_Mo_run_215 (by decide) (fun c47 => ?_) (fun c47 => ?_)
            · have nc47 : v41.toInt = (0 : Int) := (i_eq (x := v41) (y := 0)).mp c47
              refine lv_iconst (v := 0) S.x S.b d_Mo_run_231 (by decide) ?_
              refine lv_istore (lv' := [(7, .int 0), (0, .ref mo), (1, .int p0), (2, .int p1), (3, .int p2), (4, .int p3), (5, .int x198_5), (6, .int x198_6)]) S.x S.b d_Mo_run_232 hl (by decide) rfl (fun ls hl => ?_)
              refine lv_iload S.x S.b d_Mo_run_234 (lv_at hl 6 rfl) ?_
              refine lv_if_ne (tgt := 244) S.x S.b d_Mo_run_236 (by decide) (fun c49 => ?_) (fun c49 => ?_)
              · have nc49 : ¬ x198_5.toInt = (0 : Int) := mt (i_eq (x := x198_5) (y := 0)).mpr c49
                refine lv_iconst (v := 1) S.x S.b d_Mo_run_244 (by decide) ?_
                refine lv_goto (tgt := 249) S.x S.b d_Mo_run_245 (by decide) ?_
                refine lv_istore (lv' := [(5, .int 1), (7, .int 0), (0, .ref mo), (1, .int p0), (2, .int p1), (3, .int p2), (4, .int p3), (6, .int x198_6)]) S.x S.b d_Mo_run_249 hl (by decide) rfl (fun ls hl => ?_)
                obtain ⟨z51, ez51⟩ : ∃ y : Int32, y = x198_6 + 1 := ⟨_, rfl⟩
                have tz51 : z51.toInt = (x198_6.toInt + 1 + 2147483648) % 4294967296 - 2147483648 := by rw [ez51]; exact i_add x198_6 1
                have lz51 := Int32.le_toInt z51
                have uz51 := Int32.toInt_lt z51
                try replace tz51 : z51.toInt = x198_6.toInt + 1 := by omega
                refine lv_iinc (v := z51) (lv' := [(6, .int z51), (5, .int 1), (7, .int 0), (0, .ref mo), (1, .int p0), (2, .int p1), (3, .int p2), (4, .int p3)]) S.x S.b d_Mo_run_251 hl (k := 7) rfl (by rw [ez51]; rfl) (by decide) rfl (fun ls hl => ?_)
                refine lv_goto (tgt := 198) S.x S.b d_Mo_run_254 (by decide) ?_
                have hw : pw D A s.heap _ _ [wd_Mo cs mo mr (fun _ => none) mf_198 md_198 (gMo PG hq), fm 8 (fPg cs PG), fm 13 (fPr cs hq qr QO_198 QF_198 QA_198)] := fm_back (pr := [wd_Mo cs mo mr (fun _ => none) mf_198 md_198 (gMo PG hq), fm 8 (fPg cs PG)]) (T := fPr cs hq qr QO_198 QF_198 QA_198) hw hi39
                have hw : pw D A s.heap _ _ [wd_Mo cs mo mr (fun _ => none) mf_198 md_198 (gMo PG hq), fm 13 (fPr cs hq qr QO_198 QF_198 QA_198), fm 8 (fPg cs PG)] := hw.sub [0, 2, 1] rfl rfl
                exact ih198 mf_198 md_198 QO_198 QF_198 QA_198 RR_198 (1 : Int32) z51 _ _ ls (show PrA PG RR_198 QO_198 QF_198 QA_198 from hpr) (show (mf_198 7).toInt = p2.toInt from by first | exact k198_1 | omega) (show (mf_198 8).toInt = p3.toInt from by first | exact k198_2 | omega) (show 0 ≤ p2.toInt from by first | exact k187_3 | omega) (show p2.toInt ≤ 100 from by first | exact k187_4 | omega) (show 0 ≤ p3.toInt from by first | exact k187_5 | omega) (show p3.toInt ≤ 512 from by first | exact k187_6 | omega) (show (mf_198 2).toInt = (mf 2).toInt from by first | exact k198_7 | omega) (show 0 ≤ (mf_198 10).toInt from by first | exact k198_8 | omega) (show (mf_198 10).toInt ≤ (mf 10).toInt from by first | exact k198_9 | omega) (show 0 ≤ p0.toInt from by first | exact k187_10 | omega) (show p0.toInt < 8 from by first | exact k187_11 | omega) (show (mf_198 3).toInt = (mf 3).toInt from by first | exact k198_12 | omega) (show (mf_198 10).toInt = (mf 10).toInt - p2.toInt - 30 from by first | exact k198_13 | omega) (show 1 ≤ ((PG p0.toNatClampNeg).xf 66).toInt from by first | exact k187_14 | omega) (show Md1 md md_198 from hmdq) (show 0 ≤ (1 : Int) from by first | exact oz_19c3a41681 | omega) (show (1 : Int) ≤ 1 from by first | exact oz_f9181dc4bb | omega) (show 0 ≤ z51.toInt from by first | exact oz_ae613611c0 tz51 k198_18 | omega) (show z51.toInt ≤ 13 from by first | exact oz_d342e04a5c tz51 nc37 | omega) (show sumR RR_198 13 + (1 : Int) ≤ sumR RR_187 13 from by first | exact oz_5c6028159b k198_20 k198_16 nc49 | omega) (show 1 ≤ x187_5.toInt from by first | exact k198_21 | omega) (show 13 - z51.toInt < (n_198 : Int) from by first | exact oz_6680d080b4 hm tz51 | omega) hw (lv_sub hl [3, 4, 5, 6, 7, 1, 0] rfl)
              · have nc49 : x198_5.toInt = (0 : Int) := (i_eq (x := x198_5) (y := 0)).mp c49
                refine lv_iload S.x S.b d_Mo_run_239 (lv_at hl 0 rfl) ?_
                refine lv_if_eq (tgt := 248) S.x S.b d_Mo_run_241 (by decide) (fun c52 => ?_) (fun c52 => ?_)
                ·
                  refine lv_iconst (v := 0) S.x S.b d_Mo_run_248 (by decide) ?_
                  refine lv_istore (lv' := [(5, .int 0), (7, .int 0), (0, .ref mo), (1, .int p0), (2, .int p1), (3, .int p2), (4, .int p3), (6, .int x198_6)]) S.x S.b d_Mo_run_249 hl (by decide) rfl (fun ls hl => ?_)
                  obtain ⟨z53, ez53⟩ : ∃ y : Int32, y = x198_6 + 1 := ⟨_, rfl⟩
                  have tz53 : z53.toInt = (x198_6.toInt + 1 + 2147483648) % 4294967296 - 2147483648 := by rw [ez53]; exact i_add x198_6 1
                  have lz53 := Int32.le_toInt z53
                  have uz53 := Int32.toInt_lt z53
                  try replace tz53 : z53.toInt = x198_6.toInt + 1 := by omega
                  refine lv_iinc (v := z53) (lv' := [(6, .int z53), (5, .int 0), (7, .int 0), (0, .ref mo), (1, .int p0), (2, .int p1), (3, .int p2), (4, .int p3)]) S.x S.b d_Mo_run_251 hl (k := 7) rfl (by rw [ez53]; rfl) (by decide) rfl (fun ls hl => ?_)
                  refine lv_goto (tgt := 198) S.x S.b d_Mo_run_254 (by decide) ?_
                  have hw : pw D A s.heap _ _ [wd_Mo cs mo mr (fun _ => none) mf_198 md_198 (gMo PG hq), fm 8 (fPg cs PG), fm 13 (fPr cs hq qr QO_198 QF_198 QA_198)] := fm_back (pr := [wd_Mo cs mo mr (fun _ => none) mf_198 md_198 (gMo PG hq), fm 8 (fPg cs PG)]) (T := fPr cs hq qr QO_198 QF_198 QA_198) hw hi39
                  have hw : pw D A s.heap _ _ [wd_Mo cs mo mr (fun _ => none) mf_198 md_198 (gMo PG hq), fm 13 (fPr cs hq qr QO_198 QF_198 QA_198), fm 8 (fPg cs PG)] := hw.sub [0, 2, 1] rfl rfl
                  exact ih198 mf_198 md_198 QO_198 QF_198 QA_198 RR_198 (0 : Int32) z53 _ _ ls (show PrA PG RR_198 QO_198 QF_198 QA_198 from hpr) (show (mf_198 7).toInt = p2.toInt from by first | exact k198_1 | omega) (show (mf_198 8).toInt = p3.toInt from by first | exact k198_2 | omega) (show 0 ≤ p2.toInt from by first | exact k187_3 | omega) (show p2.toInt ≤ 100 from by first | exact k187_4 | omega) (show 0 ≤ p3.toInt from by first | exact k187_5 | omega) (show p3.toInt ≤ 512 from by first | exact k187_6 | omega) (show (mf_198 2).toInt = (mf 2).toInt from by first | exact k198_7 | omega) (show 0 ≤ (mf_198 10).toInt from by first | exact k198_8 | omega) (show (mf_198 10).toInt ≤ (mf 10).toInt from by first | exact k198_9 | omega) (show 0 ≤ p0.toInt from by first | exact k187_10 | omega) (show p0.toInt < 8 from by first | exact k187_11 | omega) (show (mf_198 3).toInt = (mf 3).toInt from by first | exact k198_12 | omega) (show (mf_198 10).toInt = (mf 10).toInt - p2.toInt - 30 from by first | exact k198_13 | omega) (show 1 ≤ ((PG p0.toNatClampNeg).xf 66).toInt from by first | exact k187_14 | omega) (show Md1 md md_198 from hmdq) (show 0 ≤ (0 : Int) from by first | exact oz_5a341f00aa | omega) (show (0 : Int) ≤ 1 from by first | exact oz_6e68cd0f48 | omega) (show 0 ≤ z53.toInt from by first | exact oz_ae613611c0 tz53 k198_18 | omega) (show z53.toInt ≤ 13 from by first | exact oz_d342e04a5c tz53 nc37 | omega) (show sumR RR_198 13 + (0 : Int) ≤ sumR RR_187 13 from by first | exact oz_114f3a14bc k198_20 k198_16 | omega) (show 1 ≤ x187_5.toInt from by first | exact k198_21 | omega) (show 13 - z53.toInt < (n_198 : Int) from by first | exact oz_6680d080b4 hm tz53 | omega) hw (lv_sub hl [3, 4, 5, 6, 7, 1, 0] rfl)
                · exact absurd c52 (by decide)
            · have nc47 : ¬ v41.toInt = (0 : Int) := mt (i_eq (x := v41) (y := 0)).mpr c47
              refine lv_aload_n S.x S.b d_Mo_run_218 rfl (lv_at hl 0 rfl) ?_
              refine lv_iload S.x S.b d_Mo_run_219 (lv_at hl 6 rfl) ?_
              have hw : pw D A s.heap _ _ [wd_Mo cs mo mr (fun _ => none) mf_198 md_198 (gMo PG hq), fm 8 (fPg cs PG), fm 13 (fPr cs hq qr QO_198 QF_198 QA_198)] := fm_back (pr := [wd_Mo cs mo mr (fun _ => none) mf_198 md_198 (gMo PG hq), fm 8 (fPg cs PG)]) (T := fPr cs hq qr QO_198 QF_198 QA_198) hw hi39
              have hw : pw D A s.heap _ _ [wd_Mo cs mo mr (fun _ => none) mf_198 md_198 (gMo PG hq), fm 13 (fPr cs hq qr QO_198 QF_198 QA_198), fm 8 (fPg cs PG)] := hw.sub [0, 2, 1] rfl rfl
              refine px_calli (pr := []) (px_runV (As := [.int x198_6]) (rest := []) S (c_mo_goOn l D cs RR_198 mo mr mf_198 md_198 hq qr QO_198 QF_198 QA_198 PG x198_6  (show 0 ≤ x198_6.toInt from by first | exact k198_18 | omega) (show x198_6.toInt < 13 from by first | exact oz_c0b67ff80b nc37 | omega) (show 0 ≤ (mf_198 7).toInt from by first | exact oz_f3ebed1ad0 k198_1 k187_3 | omega) (show (mf_198 7).toInt ≤ 100 from by first | exact oz_b2552476a0 k198_1 k187_4 | omega) (show 0 ≤ (mf_198 8).toInt from by first | exact oz_f3ebed1ad0 k198_2 k187_5 | omega) (show (mf_198 8).toInt ≤ 512 from by first | exact oz_5926d5b85b k198_2 k187_6 | omega) hpr hpg _) hT (pr := []) (pcs := [wd_Mo cs mo mr (fun _ => none) mf_198 md_198 (gMo PG hq), fm 13 (fPr cs hq qr QO_198 QF_198 QA_198), fm 8 (fPg cs PG)]) hw (oX_call (P := (fun A U H => (∀ j : Nat, j < 8 → oP A (PG j).g U H) ∧ (oLW A U H))) (pr := []) (oG_and oG_G oG_LW) hw hA ⟨hGG, hSh⟩) (px_recv hT hw 0 0 rfl rfl rfl) m13_169 m13_166 m13_168 ms_14_15 m1_20 q_Mo_goOn ⟨Nat.le_of_ble_eq_true rfl, Nat.le_of_ble_eq_true rfl⟩ hl.1 rfl (Nat.le_of_ble_eq_true rfl) d_Mo_run_221 ⟨Nat.le_of_ble_eq_true rfl, Nat.le_of_ble_eq_true rfl⟩) hw hA (fun v65 p64 H locs hp64 hw => ?_)
              obtain ⟨mf59, md60, QO61, QF62, QA63, rfl, e66, e67, e68, e69, e70, e71, e72, e73, e74, e75⟩ := hp64
              have e66 : 0 ≤ v65.toInt := e66
              have e67 : v65.toInt ≤ 1 := e67
              have e68 : PrA PG (va_up RR_198 x198_6.toNatClampNeg (RR_198 x198_6.toNatClampNeg - v65.toInt)) QO61 QF62 QA63 := e68
              have hpr := e68
              have hcl9 := cl_nat (x := x198_6) (by first | exact k198_18 | omega)
              have hsu := sum_up (RR := RR_198) (p := x198_6.toNatClampNeg) (x := RR_198 x198_6.toNatClampNeg - v65.toInt) (m := 13) (by omega)
              have e69 : (mf59 0).toInt = (mf_198 0).toInt := e69
              have e70 : (mf59 2).toInt = (mf_198 2).toInt := e70
              have e71 : (mf59 3).toInt = (mf_198 3).toInt := e71
              have e72 : (mf59 7).toInt = (mf_198 7).toInt := e72
              have e73 : (mf59 8).toInt = (mf_198 8).toInt := e73
              have e74 : (mf59 10).toInt = (mf_198 10).toInt := e74
              have e75 : Md1 md_198 md60 := e75
              have hmdq := Md1.tr hmdq e75
              have hw : pw D A s.heap H locs [wd_Mo cs mo mr (fun _ => none) mf59 md60 (gMo PG hq), fm 13 (fPr cs hq qr QO61 QF62 QA63), fm 8 (fPg cs PG)] := hw
              have lv65 := Int32.le_toInt v65
              have uv65 := Int32.toInt_lt v65
              refine lv_if_eq (tgt := 231) S.x S.b d_Mo_run_224 (by decide) (fun c76 => ?_) (fun c76 => ?_)
              · have nc76 : v65.toInt = (0 : Int) := (i_eq (x := v65) (y := 0)).mp c76
                refine lv_iconst (v := 0) S.x S.b d_Mo_run_231 (by decide) ?_
                refine lv_istore (lv' := [(7, .int 0), (0, .ref mo), (1, .int p0), (2, .int p1), (3, .int p2), (4, .int p3), (5, .int x198_5), (6, .int x198_6)]) S.x S.b d_Mo_run_232 hl (by decide) rfl (fun ls hl => ?_)
                refine lv_iload S.x S.b d_Mo_run_234 (lv_at hl 6 rfl) ?_
                refine lv_if_ne (tgt := 244) S.x S.b d_Mo_run_236 (by decide) (fun c78 => ?_) (fun c78 => ?_)
                · have nc78 : ¬ x198_5.toInt = (0 : Int) := mt (i_eq (x := x198_5) (y := 0)).mpr c78
                  refine lv_iconst (v := 1) S.x S.b d_Mo_run_244 (by decide) ?_
                  refine lv_goto (tgt := 249) S.x S.b d_Mo_run_245 (by decide) ?_
                  refine lv_istore (lv' := [(5, .int 1), (7, .int 0), (0, .ref mo), (1, .int p0), (2, .int p1), (3, .int p2), (4, .int p3), (6, .int x198_6)]) S.x S.b d_Mo_run_249 hl (by decide) rfl (fun ls hl => ?_)
                  obtain ⟨z80, ez80⟩ : ∃ y : Int32, y = x198_6 + 1 := ⟨_, rfl⟩
                  have tz80 : z80.toInt = (x198_6.toInt + 1 + 2147483648) % 4294967296 - 2147483648 := by rw [ez80]; exact i_add x198_6 1
                  have lz80 := Int32.le_toInt z80
                  have uz80 := Int32.toInt_lt z80
                  try replace tz80 : z80.toInt = x198_6.toInt + 1 := by omega
                  refine lv_iinc (v := z80) (lv' := [(6, .int z80), (5, .int 1), (7, .int 0), (0, .ref mo), (1, .int p0), (2, .int p1), (3, .int p2), (4, .int p3)]) S.x S.b d_Mo_run_251 hl (k := 7) rfl (by rw [ez80]; rfl) (by decide) rfl (fun ls hl => ?_)
                  refine lv_goto (tgt := 198) S.x S.b d_Mo_run_254 (by decide) ?_
                  exact ih198 mf59 md60 QO61 QF62 QA63 (va_up RR_198 x198_6.toNatClampNeg (RR_198 x198_6.toNatClampNeg - v65.toInt)) (1 : Int32) z80 _ _ ls (show PrA PG (va_up RR_198 x198_6.toNatClampNeg (RR_198 x198_6.toNatClampNeg - v65.toInt)) QO61 QF62 QA63 from hpr) (show (mf59 7).toInt = p2.toInt from by first | exact oz_1687f4cc65 k198_1 e72 | omega) (show (mf59 8).toInt = p3.toInt from by first | exact oz_1687f4cc65 k198_2 e73 | omega) (show 0 ≤ p2.toInt from by first | exact k187_3 | omega) (show p2.toInt ≤ 100 from by first | exact k187_4 | omega) (show 0 ≤ p3.toInt from by first | exact k187_5 | omega) (show p3.toInt ≤ 512 from by first | exact k187_6 | omega) (show (mf59 2).toInt = (mf 2).toInt from by first | exact oz_1687f4cc65 k198_7 e70 | omega) (show 0 ≤ (mf59 10).toInt from by first | exact oz_f3ebed1ad0 e74 k198_8 | omega) (show (mf59 10).toInt ≤ (mf 10).toInt from by first | exact oz_c92d53f5de k198_13 e74 k187_3 | omega) (show 0 ≤ p0.toInt from by first | exact k187_10 | omega) (show p0.toInt < 8 from by first | exact k187_11 | omega) (show (mf59 3).toInt = (mf 3).toInt from by first | exact oz_1687f4cc65 k198_12 e71 | omega) (show (mf59 10).toInt = (mf 10).toInt - p2.toInt - 30 from by first | exact oz_1dda568f25 k198_13 e74 | omega) (show 1 ≤ ((PG p0.toNatClampNeg).xf 66).toInt from by first | exact k187_14 | omega) (show Md1 md md60 from hmdq) (show 0 ≤ (1 : Int) from by first | exact oz_19c3a41681 | omega) (show (1 : Int) ≤ 1 from by first | exact oz_f9181dc4bb | omega) (show 0 ≤ z80.toInt from by first | exact oz_ae613611c0 tz80 k198_18 | omega) (show z80.toInt ≤ 13 from by first | exact oz_d342e04a5c tz80 nc37 | omega) (show sumR (va_up RR_198 x198_6.toNatClampNeg (RR_198 x198_6.toNatClampNeg - v65.toInt)) 13 + (1 : Int) ≤ sumR RR_187 13 from by omega) (show 1 ≤ x187_5.toInt from by first | exact k198_21 | omega) (show 13 - z80.toInt < (n_198 : Int) from by first | exact oz_6680d080b4 hm tz80 | omega) hw (lv_sub hl [3, 4, 5, 6, 7, 1, 0] rfl)
                · have nc78 : x198_5.toInt = (0 : Int) := (i_eq (x := x198_5) (y := 0)).mp c78
                  refine lv_iload S.x S.b d_Mo_run_239 (lv_at hl 0 rfl) ?_
                  refine lv_if_eq (tgt := 248) S.x S.b d_Mo_run_241 (by decide) (fun c81 => ?_) (fun c81 => ?_)
                  ·
                    refine lv_iconst (v := 0) S.x S.b d_Mo_run_248 (by decide) ?_
                    refine lv_istore (lv' := [(5, .int 0), (7, .int 0), (0, .ref mo), (1, .int p0), (2, .int p1), (3, .int p2), (4, .int p3), (6, .int x198_6)]) S.x S.b d_Mo_run_249 hl (by decide) rfl (fun ls hl => ?_)
                    obtain ⟨z82, ez82⟩ : ∃ y : Int32, y = x198_6 + 1 := ⟨_, rfl⟩
                    have tz82 : z82.toInt = (x198_6.toInt + 1 + 2147483648) % 4294967296 - 2147483648 := by rw [ez82]; exact i_add x198_6 1
                    have lz82 := Int32.le_toInt z82
                    have uz82 := Int32.toInt_lt z82
                    try replace tz82 : z82.toInt = x198_6.toInt + 1 := by omega
                    refine lv_iinc (v := z82) (lv' := [(6, .int z82), (5, .int 0), (7, .int 0), (0, .ref mo), (1, .int p0), (2, .int p1), (3, .int p2), (4, .int p3)]) S.x S.b d_Mo_run_251 hl (k := 7) rfl (by rw [ez82]; rfl) (by decide) rfl (fun ls hl => ?_)
                    refine lv_goto (tgt := 198) S.x S.b d_Mo_run_254 (by decide) ?_
                    exact ih198 mf59 md60 QO61 QF62 QA63 (va_up RR_198 x198_6.toNatClampNeg (RR_198 x198_6.toNatClampNeg - v65.toInt)) (0 : Int32) z82 _ _ ls (show PrA PG (va_up RR_198 x198_6.toNatClampNeg (RR_198 x198_6.toNatClampNeg - v65.toInt)) QO61 QF62 QA63 from hpr) (show (mf59 7).toInt = p2.toInt from by first | exact oz_1687f4cc65 k198_1 e72 | omega) (show (mf59 8).toInt = p3.toInt from by first | exact oz_1687f4cc65 k198_2 e73 | omega) (show 0 ≤ p2.toInt from by first | exact k187_3 | omega) (show p2.toInt ≤ 100 from by first | exact k187_4 | omega) (show 0 ≤ p3.toInt from by first | exact k187_5 | omega) (show p3.toInt ≤ 512 from by first | exact k187_6 | omega) (show (mf59 2).toInt = (mf 2).toInt from by first | exact oz_1687f4cc65 k198_7 e70 | omega) (show 0 ≤ (mf59 10).toInt from by first | exact oz_f3ebed1ad0 e74 k198_8 | omega) (show (mf59 10).toInt ≤ (mf 10).toInt from by first | exact oz_c92d53f5de k198_13 e74 k187_3 | omega) (show 0 ≤ p0.toInt from by first | exact k187_10 | omega) (show p0.toInt < 8 from by first | exact k187_11 | omega) (show (mf59 3).toInt = (mf 3).toInt from by first | exact oz_1687f4cc65 k198_12 e71 | omega) (show (mf59 10).toInt = (mf 10).toInt - p2.toInt - 30 from by first | exact oz_1dda568f25 k198_13 e74 | omega) (show 1 ≤ ((PG p0.toNatClampNeg).xf 66).toInt from by first | exact k187_14 | omega) (show Md1 md md60 from hmdq) (show 0 ≤ (0 : Int) from by first | exact oz_5a341f00aa | omega) (show (0 : Int) ≤ 1 from by first | exact oz_6e68cd0f48 | omega) (show 0 ≤ z82.toInt from by first | exact oz_ae613611c0 tz82 k198_18 | omega) (show z82.toInt ≤ 13 from by first | exact oz_d342e04a5c tz82 nc37 | omega) (show sumR (va_up RR_198 x198_6.toNatClampNeg (RR_198 x198_6.toNatClampNeg - v65.toInt)) 13 + (0 : Int) ≤ sumR RR_187 13 from by omega) (show 1 ≤ x187_5.toInt from by first | exact k198_21 | omega) (show 13 - z82.toInt < (n_198 : Int) from by first | exact oz_6680d080b4 hm tz82 | omega) hw (lv_sub hl [3, 4, 5, 6, 7, 1, 0] rfl)
                  · exact absurd c81 (by decide)
              · have nc76 : ¬ v65.toInt = (0 : Int) := mt (i_eq (x := v65) (y := 0)).mpr c76
                refine lv_iconst (v := 1) S.x S.b d_Mo_run_227 (by decide) ?_
                refine lv_goto (tgt := 232) S.x S.b d_Mo_run_228 (by decide) ?_
                refine lv_istore (lv' := [(7, .int 1), (0, .ref mo), (1, .int p0), (2, .int p1), (3, .int p2), (4, .int p3), (5, .int x198_5), (6, .int x198_6)]) S.x S.b d_Mo_run_232 hl (by decide) rfl (fun ls hl => ?_)
                refine lv_iload S.x S.b d_Mo_run_234 (lv_at hl 6 rfl) ?_
                refine lv_if_ne (tgt := 244) S.x S.b d_Mo_run_236 (by decide) (fun c83 => ?_) (fun c83 => ?_)
                · have nc83 : ¬ x198_5.toInt = (0 : Int) := mt (i_eq (x := x198_5) (y := 0)).mpr c83
                  refine lv_iconst (v := 1) S.x S.b d_Mo_run_244 (by decide) ?_
                  refine lv_goto (tgt := 249) S.x S.b d_Mo_run_245 (by decide) ?_
                  refine lv_istore (lv' := [(5, .int 1), (7, .int 1), (0, .ref mo), (1, .int p0), (2, .int p1), (3, .int p2), (4, .int p3), (6, .int x198_6)]) S.x S.b d_Mo_run_249 hl (by decide) rfl (fun ls hl => ?_)
                  obtain ⟨z85, ez85⟩ : ∃ y : Int32, y = x198_6 + 1 := ⟨_, rfl⟩
                  have tz85 : z85.toInt = (x198_6.toInt + 1 + 2147483648) % 4294967296 - 2147483648 := by rw [ez85]; exact i_add x198_6 1
                  have lz85 := Int32.le_toInt z85
                  have uz85 := Int32.toInt_lt z85
                  try replace tz85 : z85.toInt = x198_6.toInt + 1 := by omega
                  refine lv_iinc (v := z85) (lv' := [(6, .int z85), (5, .int 1), (7, .int 1), (0, .ref mo), (1, .int p0), (2, .int p1), (3, .int p2), (4, .int p3)]) S.x S.b d_Mo_run_251 hl (k := 7) rfl (by rw [ez85]; rfl) (by decide) rfl (fun ls hl => ?_)
                  refine lv_goto (tgt := 198) S.x S.b d_Mo_run_254 (by decide) ?_
                  exact ih198 mf59 md60 QO61 QF62 QA63 (va_up RR_198 x198_6.toNatClampNeg (RR_198 x198_6.toNatClampNeg - v65.toInt)) (1 : Int32) z85 _ _ ls (show PrA PG (va_up RR_198 x198_6.toNatClampNeg (RR_198 x198_6.toNatClampNeg - v65.toInt)) QO61 QF62 QA63 from hpr) (show (mf59 7).toInt = p2.toInt from by first | exact oz_1687f4cc65 k198_1 e72 | omega) (show (mf59 8).toInt = p3.toInt from by first | exact oz_1687f4cc65 k198_2 e73 | omega) (show 0 ≤ p2.toInt from by first | exact k187_3 | omega) (show p2.toInt ≤ 100 from by first | exact k187_4 | omega) (show 0 ≤ p3.toInt from by first | exact k187_5 | omega) (show p3.toInt ≤ 512 from by first | exact k187_6 | omega) (show (mf59 2).toInt = (mf 2).toInt from by first | exact oz_1687f4cc65 k198_7 e70 | omega) (show 0 ≤ (mf59 10).toInt from by first | exact oz_f3ebed1ad0 e74 k198_8 | omega) (show (mf59 10).toInt ≤ (mf 10).toInt from by first | exact oz_c92d53f5de k198_13 e74 k187_3 | omega) (show 0 ≤ p0.toInt from by first | exact k187_10 | omega) (show p0.toInt < 8 from by first | exact k187_11 | omega) (show (mf59 3).toInt = (mf 3).toInt from by first | exact oz_1687f4cc65 k198_12 e71 | omega) (show (mf59 10).toInt = (mf 10).toInt - p2.toInt - 30 from by first | exact oz_1dda568f25 k198_13 e74 | omega) (show 1 ≤ ((PG p0.toNatClampNeg).xf 66).toInt from by first | exact k187_14 | omega) (show Md1 md md60 from hmdq) (show 0 ≤ (1 : Int) from by first | exact oz_19c3a41681 | omega) (show (1 : Int) ≤ 1 from by first | exact oz_f9181dc4bb | omega) (show 0 ≤ z85.toInt from by first | exact oz_ae613611c0 tz85 k198_18 | omega) (show z85.toInt ≤ 13 from by first | exact oz_d342e04a5c tz85 nc37 | omega) (show sumR (va_up RR_198 x198_6.toNatClampNeg (RR_198 x198_6.toNatClampNeg - v65.toInt)) 13 + (1 : Int) ≤ sumR RR_187 13 from by omega) (show 1 ≤ x187_5.toInt from by first | exact k198_21 | omega) (show 13 - z85.toInt < (n_198 : Int) from by first | exact oz_6680d080b4 hm tz85 | omega) hw (lv_sub hl [3, 4, 5, 6, 7, 1, 0] rfl)
                · have nc83 : x198_5.toInt = (0 : Int) := (i_eq (x := x198_5) (y := 0)).mp c83
                  refine lv_iload S.x S.b d_Mo_run_239 (lv_at hl 0 rfl) ?_
                  refine lv_if_eq (tgt := 248) S.x S.b d_Mo_run_241 (by decide) (fun c86 => ?_) (fun c86 => ?_)
                  · exact absurd c86 (by decide)
                  ·
                    refine lv_iconst (v := 1) S.x S.b d_Mo_run_244 (by decide) ?_
                    refine lv_goto (tgt := 249) S.x S.b d_Mo_run_245 (by decide) ?_
                    refine lv_istore (lv' := [(5, .int 1), (7, .int 1), (0, .ref mo), (1, .int p0), (2, .int p1), (3, .int p2), (4, .int p3), (6, .int x198_6)]) S.x S.b d_Mo_run_249 hl (by decide) rfl (fun ls hl => ?_)
                    obtain ⟨z87, ez87⟩ : ∃ y : Int32, y = x198_6 + 1 := ⟨_, rfl⟩
                    have tz87 : z87.toInt = (x198_6.toInt + 1 + 2147483648) % 4294967296 - 2147483648 := by rw [ez87]; exact i_add x198_6 1
                    have lz87 := Int32.le_toInt z87
                    have uz87 := Int32.toInt_lt z87
                    try replace tz87 : z87.toInt = x198_6.toInt + 1 := by omega
                    refine lv_iinc (v := z87) (lv' := [(6, .int z87), (5, .int 1), (7, .int 1), (0, .ref mo), (1, .int p0), (2, .int p1), (3, .int p2), (4, .int p3)]) S.x S.b d_Mo_run_251 hl (k := 7) rfl (by rw [ez87]; rfl) (by decide) rfl (fun ls hl => ?_)
                    refine lv_goto (tgt := 198) S.x S.b d_Mo_run_254 (by decide) ?_
                    exact ih198 mf59 md60 QO61 QF62 QA63 (va_up RR_198 x198_6.toNatClampNeg (RR_198 x198_6.toNatClampNeg - v65.toInt)) (1 : Int32) z87 _ _ ls (show PrA PG (va_up RR_198 x198_6.toNatClampNeg (RR_198 x198_6.toNatClampNeg - v65.toInt)) QO61 QF62 QA63 from hpr) (show (mf59 7).toInt = p2.toInt from by first | exact oz_1687f4cc65 k198_1 e72 | omega) (show (mf59 8).toInt = p3.toInt from by first | exact oz_1687f4cc65 k198_2 e73 | omega) (show 0 ≤ p2.toInt from by first | exact k187_3 | omega) (show p2.toInt ≤ 100 from by first | exact k187_4 | omega) (show 0 ≤ p3.toInt from by first | exact k187_5 | omega) (show p3.toInt ≤ 512 from by first | exact k187_6 | omega) (show (mf59 2).toInt = (mf 2).toInt from by first | exact oz_1687f4cc65 k198_7 e70 | omega) (show 0 ≤ (mf59 10).toInt from by first | exact oz_f3ebed1ad0 e74 k198_8 | omega) (show (mf59 10).toInt ≤ (mf 10).toInt from by first | exact oz_c92d53f5de k198_13 e74 k187_3 | omega) (show 0 ≤ p0.toInt from by first | exact k187_10 | omega) (show p0.toInt < 8 from by first | exact k187_11 | omega) (show (mf59 3).toInt = (mf 3).toInt from by first | exact oz_1687f4cc65 k198_12 e71 | omega) (show (mf59 10).toInt = (mf 10).toInt - p2.toInt - 30 from by first | exact oz_1dda568f25 k198_13 e74 | omega) (show 1 ≤ ((PG p0.toNatClampNeg).xf 66).toInt from by first | exact k187_14 | omega) (show Md1 md md60 from hmdq) (show 0 ≤ (1 : Int) from by first | exact oz_19c3a41681 | omega) (show (1 : Int) ≤ 1 from by first | exact oz_f9181dc4bb | omega) (show 0 ≤ z87.toInt from by first | exact oz_ae613611c0 tz87 k198_18 | omega) (show z87.toInt ≤ 13 from by first | exact oz_d342e04a5c tz87 nc37 | omega) (show sumR (va_up RR_198 x198_6.toNatClampNeg (RR_198 x198_6.toNatClampNeg - v65.toInt)) 13 + (1 : Int) ≤ sumR RR_187 13 from by omega) (show 1 ≤ x187_5.toInt from by first | exact k198_21 | omega) (show 13 - z87.toInt < (n_198 : Int) from by first | exact oz_6680d080b4 hm tz87 | omega) hw (lv_sub hl [3, 4, 5, 6, 7, 1, 0] rfl)
      refine lv_iload S.x S.b d_Mo_run_187 (lv_at hl 5 rfl) ?_
      refine lv_if_eq (tgt := 260) S.x S.b d_Mo_run_189 (by decide) (fun c88 => ?_) (fun c88 => ?_)
      · have nc88 : x187_5.toInt = (0 : Int) := (i_eq (x := x187_5) (y := 0)).mp c88
        refine lv_iconst (v := 0) S.x S.b d_Mo_run_260 (by decide) ?_
        refine lv_istore (lv' := [(6, .int 0), (0, .ref mo), (1, .int p0), (2, .int p1), (3, .int p2), (4, .int p3), (5, .int x187_5)]) S.x S.b d_Mo_run_261 hl (by decide) rfl (fun ls hl => ?_)
        exact J263 ((13 - (0 : Int)).toNat + 1) mf_187 md_187 QO_187 QF_187 QA_187 RR_187 (0 : Int32) _ _ ls (show PrA PG RR_187 QO_187 QF_187 QA_187 from hpr) (show (mf_187 7).toInt = p2.toInt from by first | exact k187_1 | omega) (show (mf_187 8).toInt = p3.toInt from by first | exact k187_2 | omega) (show 0 ≤ p2.toInt from by first | exact k187_3 | omega) (show p2.toInt ≤ 100 from by first | exact k187_4 | omega) (show 0 ≤ p3.toInt from by first | exact k187_5 | omega) (show p3.toInt ≤ 512 from by first | exact k187_6 | omega) (show (mf_187 2).toInt = (mf 2).toInt from by first | exact k187_7 | omega) (show 0 ≤ (mf_187 10).toInt from by first | exact k187_8 | omega) (show (mf_187 10).toInt ≤ (mf 10).toInt from by first | exact k187_9 | omega) (show 0 ≤ p0.toInt from by first | exact k187_10 | omega) (show p0.toInt < 8 from by first | exact k187_11 | omega) (show (mf_187 3).toInt = (mf 3).toInt from by first | exact k187_12 | omega) (show (mf_187 10).toInt = (mf 10).toInt - p2.toInt - 30 from by first | exact k187_13 | omega) (show 1 ≤ ((PG p0.toNatClampNeg).xf 66).toInt from by first | exact k187_14 | omega) (show Md1 md md_187 from hmdq) (show 0 ≤ (0 : Int) from by first | exact oz_5a341f00aa | omega) (show (0 : Int) ≤ 13 from by first | exact oz_fc8b4ec74a | omega) (show 13 - (0 : Int) < ((((13 - (0 : Int)).toNat + 1 : Nat) : Int) : Int) from by first | exact oz_natlt | omega) hw (lv_sub hl [1, 2, 3, 4, 5, 0] rfl)
      · have nc88 : ¬ x187_5.toInt = (0 : Int) := mt (i_eq (x := x187_5) (y := 0)).mpr c88
        refine lv_iconst (v := 0) S.x S.b d_Mo_run_192 (by decide) ?_
        refine lv_istore (lv' := [(5, .int 0), (0, .ref mo), (1, .int p0), (2, .int p1), (3, .int p2), (4, .int p3)]) S.x S.b d_Mo_run_193 hl (by decide) rfl (fun ls hl => ?_)
        refine lv_iconst (v := 0) S.x S.b d_Mo_run_195 (by decide) ?_
        refine lv_istore (lv' := [(6, .int 0), (5, .int 0), (0, .ref mo), (1, .int p0), (2, .int p1), (3, .int p2), (4, .int p3)]) S.x S.b d_Mo_run_196 hl (by decide) rfl (fun ls hl => ?_)
        exact J198 ((13 - (0 : Int)).toNat + 1) mf_187 md_187 QO_187 QF_187 QA_187 RR_187 (0 : Int32) (0 : Int32) _ _ ls (show PrA PG RR_187 QO_187 QF_187 QA_187 from hpr) (show (mf_187 7).toInt = p2.toInt from by first | exact k187_1 | omega) (show (mf_187 8).toInt = p3.toInt from by first | exact k187_2 | omega) (show 0 ≤ p2.toInt from by first | exact k187_3 | omega) (show p2.toInt ≤ 100 from by first | exact k187_4 | omega) (show 0 ≤ p3.toInt from by first | exact k187_5 | omega) (show p3.toInt ≤ 512 from by first | exact k187_6 | omega) (show (mf_187 2).toInt = (mf 2).toInt from by first | exact k187_7 | omega) (show 0 ≤ (mf_187 10).toInt from by first | exact k187_8 | omega) (show (mf_187 10).toInt ≤ (mf 10).toInt from by first | exact k187_9 | omega) (show 0 ≤ p0.toInt from by first | exact k187_10 | omega) (show p0.toInt < 8 from by first | exact k187_11 | omega) (show (mf_187 3).toInt = (mf 3).toInt from by first | exact k187_12 | omega) (show (mf_187 10).toInt = (mf 10).toInt - p2.toInt - 30 from by first | exact k187_13 | omega) (show 1 ≤ ((PG p0.toNatClampNeg).xf 66).toInt from by first | exact k187_14 | omega) (show Md1 md md_187 from hmdq) (show 0 ≤ (0 : Int) from by first | exact oz_5a341f00aa | omega) (show (0 : Int) ≤ 1 from by first | exact oz_6e68cd0f48 | omega) (show 0 ≤ (0 : Int) from by first | exact oz_5a341f00aa | omega) (show (0 : Int) ≤ 13 from by first | exact oz_fc8b4ec74a | omega) (show sumR RR_187 13 + (0 : Int) ≤ sumR RR_187 13 from by first | exact oz_9a4b2c0a69 | omega) (show 1 ≤ x187_5.toInt from by first | exact oz_70c2bdf1b6 k187_16 nc88 | omega) (show 13 - (0 : Int) < ((((13 - (0 : Int)).toNat + 1 : Nat) : Int) : Int) from by first | exact oz_natlt | omega) hw (lv_sub hl [2, 3, 4, 5, 6, 1, 0] rfl)
  have J108 : ∀ (n_108 : Nat) (mf_108 : Nat → Int32) (md_108 : Nat → Nat → Int32) (QO_108 : Nat → Option Nat) (QF_108 : Nat → Nat → Int32) (QA_108 : Nat → Nat → Nat → Int32) (x108_5 : Int32) (H : Heap) (locs : List Loc) (ls : Array Slot), (PrN QF_108) → (PrZ QF_108 x108_5.toInt) → ((mf_108 7).toInt = p2.toInt) → ((mf_108 8).toInt = p3.toInt) → (0 ≤ p2.toInt) → (p2.toInt ≤ 100) → (0 ≤ p3.toInt) → (p3.toInt ≤ 512) → ((mf_108 2).toInt = (mf 2).toInt) → (0 ≤ (mf_108 10).toInt) → ((mf_108 10).toInt ≤ (mf 10).toInt) → (0 ≤ p0.toInt) → (p0.toInt < 8) → ((mf_108 3).toInt = (mf 3).toInt) → ((mf_108 10).toInt = (mf 10).toInt - p2.toInt - 30) → (1 ≤ ((PG p0.toNatClampNeg).xf 66).toInt) → (Md1 md md_108) → (0 ≤ x108_5.toInt) → (x108_5.toInt ≤ 13) → (1 ≤ ((PG p0.toNatClampNeg).xf 66).toInt) → (((PG p0.toNatClampNeg).xf 66).toInt ≤ 2) → 13 - x108_5.toInt < (n_108 : Int) → pw D A s.heap H locs [wd_Mo cs mo mr (fun _ => none) mf_108 md_108 (gMo PG hq), fm 13 (fPr cs hq qr QO_108 QF_108 QA_108), fm 8 (fPg cs PG)] → lv_has ls 8 [(0, .ref mo), (1, .int p0), (2, .int p1), (3, .int p2), (4, .int p3), (5, .int x108_5)] → W p l e { frames := 14, cells := 0, slots := 0, locals := 600 } s m [.ref mo, .int p0, .int p1, .int p2, .int p3].toArray below meth c H locs 0 0 (MQ below (va_Qi (fun v ps => ∃ (mf' : Nat → Int32) (md' : Nat → Nat → Int32) (QO' : Nat → Option Nat) (QF' : Nat → Nat → Int32) (QA' : Nat → Nat → Nat → Int32), (ps = [wd_Mo cs mo mr (fun _ => none) mf' md' (gMo PG hq), fm 13 (fPr cs hq qr QO' QF' QA'), fm 8 (fPg cs PG)]) ∧ (PrN QF') ∧ ((mf' 2).toInt = (mf 2).toInt) ∧ (0 ≤ (mf' 10).toInt) ∧ ((mf' 10).toInt ≤ (mf 10).toInt) ∧ ((mf' 3).toInt = (mf 3).toInt) ∧ (Md1 md md') ∧ (((p0.toInt < 0 ∨ 8 ≤ p0.toInt ∨ p2.toInt < 0 ∨ 100 < p2.toInt ∨ p3.toInt < 0 ∨ 512 < p3.toInt ∨ (mf 10).toInt < p2.toInt + 30) ∧ (mf' 10).toInt = (mf 10).toInt) ∨ (0 ≤ p0.toInt ∧ p0.toInt < 8 ∧ 0 ≤ p2.toInt ∧ p2.toInt ≤ 100 ∧ 0 ≤ p3.toInt ∧ p3.toInt ≤ 512 ∧ p2.toInt + 30 ≤ (mf 10).toInt ∧ (((PG p0.toNatClampNeg).xf 66).toInt = 0 ∧ (mf' 10).toInt = (mf 10).toInt ∨ 1 ≤ ((PG p0.toNatClampNeg).xf 66).toInt ∧ (mf' 10).toInt = (mf 10).toInt - p2.toInt - 30)))) (pc_B D (va_A ([wd_Mo cs mo mr (fun _ => none) mf md (gMo PG hq), fm 13 (fPr cs hq qr QO QF QA), fm 8 (fPg cs PG)] : List va_W).flatten s.heap.size)) (va_A ([wd_Mo cs mo mr (fun _ => none) mf md (gMo PG hq), fm 13 (fPr cs hq qr QO QF QA), fm 8 (fPg cs PG)] : List va_W).flatten s.heap.size)) [.ref mo, .int p0, .int p1, .int p2, .int p3].toArray s 0 0 A) (F0 m 108 ls []) := by
    intro  n_108
    induction n_108 with
    | zero =>
      intro mf_108 md_108 QO_108 QF_108 QA_108 x108_5 H locs ls k108_0 k108_1 k108_2 k108_3 k108_4 k108_5 k108_6 k108_7 k108_8 k108_9 k108_10 k108_11 k108_12 k108_13 k108_14 k108_15 k108_16 k108_17 k108_18 k108_19 k108_20 hm hw hl
      have lx108_5 := Int32.le_toInt x108_5
      have ux108_5 := Int32.toInt_lt x108_5
      have hpn := k108_0
      have hpz := k108_1
      have hmdq := k108_16
      exact absurd hm (by omega)
    | succ n_108 ih108 =>
      intro mf_108 md_108 QO_108 QF_108 QA_108 x108_5 H locs ls k108_0 k108_1 k108_2 k108_3 k108_4 k108_5 k108_6 k108_7 k108_8 k108_9 k108_10 k108_11 k108_12 k108_13 k108_14 k108_15 k108_16 k108_17 k108_18 k108_19 k108_20 hm hw hl
      have lx108_5 := Int32.le_toInt x108_5
      have ux108_5 := Int32.toInt_lt x108_5
      have hpn := k108_0
      have hpz := k108_1
      have hmdq := k108_16
      refine lv_iload S.x S.b d_Mo_run_108 (lv_at hl 5 rfl) ?_
      refine lv_bipush (v := 13) S.x S.b d_Mo_run_110 (by decide) ?_
      refine lv_icmp_ge (tgt := 165) S.x S.b d_Mo_run_112 (by decide) (fun c90 => ?_) (fun c90 => ?_)
      · have nc90 : (13 : Int) ≤ x108_5.toInt := (i_le (x := 13) (y := x108_5)).mp c90
        refine lv_aload_n S.x S.b d_Mo_run_165 rfl (lv_at hl 0 rfl) ?_
        have hpz8 : PrZ QF_108 13 := (fun i9 q9 => hpz i9 (by omega)); have hpr : PrA PG (fun _ => RMX) QO_108 QF_108 QA_108 := pra_0 hpn hpz8
        refine px_get S k_Mo hT hw 0 0 5 (v := .ref (mr 5)) rfl rfl rfl (by decide) m11_83 d_Mo_run_166 ?_
        refine lv_iconst (v := 0) S.x S.b d_Mo_run_169 (by decide) ?_
        refine px_aaldS S hT hw 0 3 10 (n := 13) (f := ((gMo PG hq) 5)) rfl rfl rfl (x := 0) (vp_in_iff.mpr (by constructor <;> omega)) (sk := (hq (0 : Int32).toNatClampNeg)) rfl d_Mo_run_170 ?_
        refine lv_aload_n S.x S.b d_Mo_run_171 rfl (lv_at hl 0 rfl) ?_
        refine px_get S k_Mo hT hw 0 0 4 (v := .ref (mr 4)) rfl rfl rfl (by decide) m11_82 d_Mo_run_172 ?_
        refine lv_iload_n S.x S.b d_Mo_run_175 rfl (lv_at hl 1 rfl) ?_
        refine px_aaldS S hT hw 0 2 9 (n := 8) (f := ((gMo PG hq) 4)) rfl rfl rfl (x := p0) (vp_in_iff.mpr (by first | exact oz_b8f25a55ed k108_11 k108_12 | (constructor <;> omega))) (sk := (PG p0.toNatClampNeg).h) rfl d_Mo_run_176 ?_
        have hc92 := cl_nat (x := p0) (by first | exact k108_11 | omega)
        have hj92 : p0.toNatClampNeg < 8 := by first | exact oz_988ece23c5 hc92 k108_12 | omega
        have hw : pw D A s.heap _ _ [wd_Mo cs mo mr (fun _ => none) mf_108 md_108 (gMo PG hq), fm 13 (fPr cs hq qr QO_108 QF_108 QA_108), fo 8 (fPg cs PG) p0.toNatClampNeg, wdP cs (PG p0.toNatClampNeg).h (PG p0.toNatClampNeg).r (PG p0.toNatClampNeg).g (PG p0.toNatClampNeg).tf (PG p0.toNatClampNeg).ta (PG p0.toNatClampNeg).pf (PG p0.toNatClampNeg).na (PG p0.toNatClampNeg).ma (PG p0.toNatClampNeg).wa (PG p0.toNatClampNeg).cf (PG p0.toNatClampNeg).ca (PG p0.toNatClampNeg).ef (PG p0.toNatClampNeg).ea (PG p0.toNatClampNeg).xf (PG p0.toNatClampNeg).xa] := fm_out (pr := [wd_Mo cs mo mr (fun _ => none) mf_108 md_108 (gMo PG hq), fm 13 (fPr cs hq qr QO_108 QF_108 QA_108)]) (T := fPg cs PG) hw hj92
        have hpo93 := hpg p0.toNatClampNeg hj92
        have hp193 := hpo93.1
        have hp293 := hpo93.2.1
        have hP := hGG p0.toNatClampNeg hj92
        refine lv_iload_n S.x S.b d_Mo_run_177 rfl (lv_at hl 2 rfl) ?_
        refine lv_iload_n S.x S.b d_Mo_run_178 rfl (lv_at hl 3 rfl) ?_
        refine lv_iload S.x S.b d_Mo_run_179 (lv_at hl 4 rfl) ?_
        have hw : pw D A s.heap _ _ [wd_Mo cs mo mr (fun _ => none) mf_108 md_108 (gMo PG hq), fo 8 (fPg cs PG) p0.toNatClampNeg, wdP cs (PG p0.toNatClampNeg).h (PG p0.toNatClampNeg).r (PG p0.toNatClampNeg).g (PG p0.toNatClampNeg).tf (PG p0.toNatClampNeg).ta (PG p0.toNatClampNeg).pf (PG p0.toNatClampNeg).na (PG p0.toNatClampNeg).ma (PG p0.toNatClampNeg).wa (PG p0.toNatClampNeg).cf (PG p0.toNatClampNeg).ca (PG p0.toNatClampNeg).ef (PG p0.toNatClampNeg).ea (PG p0.toNatClampNeg).xf (PG p0.toNatClampNeg).xa, fm 13 (fPr cs hq qr QO_108 QF_108 QA_108)] := hw.sub [0, 2, 3, 1] rfl rfl
        have hc94 := cl_nat (x := (0 : Int32)) (by first | exact oz_b1de7dbe7e cst0 | omega)
        have hi94 : (0 : Int32).toNatClampNeg < 13 := by first | exact oz_a63a387477 hc94 cst0 | omega
        have hw : pw D A s.heap _ _ [wd_Mo cs mo mr (fun _ => none) mf_108 md_108 (gMo PG hq), fo 8 (fPg cs PG) p0.toNatClampNeg, wdP cs (PG p0.toNatClampNeg).h (PG p0.toNatClampNeg).r (PG p0.toNatClampNeg).g (PG p0.toNatClampNeg).tf (PG p0.toNatClampNeg).ta (PG p0.toNatClampNeg).pf (PG p0.toNatClampNeg).na (PG p0.toNatClampNeg).ma (PG p0.toNatClampNeg).wa (PG p0.toNatClampNeg).cf (PG p0.toNatClampNeg).ca (PG p0.toNatClampNeg).ef (PG p0.toNatClampNeg).ea (PG p0.toNatClampNeg).xf (PG p0.toNatClampNeg).xa, fo 13 (fPr cs hq qr QO_108 QF_108 QA_108) (0 : Int32).toNatClampNeg, wd_Mpr cs (hq (0 : Int32).toNatClampNeg) (qr (0 : Int32).toNatClampNeg) (fun _ => QO_108 (0 : Int32).toNatClampNeg) (QF_108 (0 : Int32).toNatClampNeg) (QA_108 (0 : Int32).toNatClampNeg) (fun _ _ => none)] := fm_out (pr := [wd_Mo cs mo mr (fun _ => none) mf_108 md_108 (gMo PG hq), fo 8 (fPg cs PG) p0.toNatClampNeg, wdP cs (PG p0.toNatClampNeg).h (PG p0.toNatClampNeg).r (PG p0.toNatClampNeg).g (PG p0.toNatClampNeg).tf (PG p0.toNatClampNeg).ta (PG p0.toNatClampNeg).pf (PG p0.toNatClampNeg).na (PG p0.toNatClampNeg).ma (PG p0.toNatClampNeg).wa (PG p0.toNatClampNeg).cf (PG p0.toNatClampNeg).ca (PG p0.toNatClampNeg).ef (PG p0.toNatClampNeg).ea (PG p0.toNatClampNeg).xf (PG p0.toNatClampNeg).xa]) (T := fPr cs hq qr QO_108 QF_108 QA_108) hw hi94
        have hps94 := hpr.1 (0 : Int32).toNatClampNeg hi94
        have hpb94 := hps94.1
        unfold PsB at hpb94
        have hw : pw D A s.heap _ _ [wd_Mo cs mo mr (fun _ => none) mf_108 md_108 (gMo PG hq), fo 8 (fPg cs PG) p0.toNatClampNeg, fo 13 (fPr cs hq qr QO_108 QF_108 QA_108) (0 : Int32).toNatClampNeg, wd_Mpr cs (hq (0 : Int32).toNatClampNeg) (qr (0 : Int32).toNatClampNeg) (fun _ => QO_108 (0 : Int32).toNatClampNeg) (QF_108 (0 : Int32).toNatClampNeg) (QA_108 (0 : Int32).toNatClampNeg) (fun _ _ => none), wdP cs (PG p0.toNatClampNeg).h (PG p0.toNatClampNeg).r (PG p0.toNatClampNeg).g (PG p0.toNatClampNeg).tf (PG p0.toNatClampNeg).ta (PG p0.toNatClampNeg).pf (PG p0.toNatClampNeg).na (PG p0.toNatClampNeg).ma (PG p0.toNatClampNeg).wa (PG p0.toNatClampNeg).cf (PG p0.toNatClampNeg).ca (PG p0.toNatClampNeg).ef (PG p0.toNatClampNeg).ea (PG p0.toNatClampNeg).xf (PG p0.toNatClampNeg).xa] := hw.sub [0, 1, 3, 4, 2] rfl rfl
        refine px_callv (pr := [wd_Mo cs mo mr (fun _ => none) mf_108 md_108 (gMo PG hq), fo 8 (fPg cs PG) p0.toNatClampNeg, fo 13 (fPr cs hq qr QO_108 QF_108 QA_108) (0 : Int32).toNatClampNeg]) (px_runV (As := [.ref (PG p0.toNatClampNeg).h, .int p1, .int p2, .int p3]) (rest := []) S (c_mq_begin l D cs (hq (0 : Int32).toNatClampNeg) (qr (0 : Int32).toNatClampNeg) (fun _ _ => none) (fun _ => QO_108 (0 : Int32).toNatClampNeg) (QF_108 (0 : Int32).toNatClampNeg) (QA_108 (0 : Int32).toNatClampNeg) (PG p0.toNatClampNeg).h (PG p0.toNatClampNeg).r (PG p0.toNatClampNeg).g (PG p0.toNatClampNeg).tf (PG p0.toNatClampNeg).ta (PG p0.toNatClampNeg).pf (PG p0.toNatClampNeg).na (PG p0.toNatClampNeg).ma (PG p0.toNatClampNeg).wa (PG p0.toNatClampNeg).cf (PG p0.toNatClampNeg).ca (PG p0.toNatClampNeg).ef (PG p0.toNatClampNeg).ea (PG p0.toNatClampNeg).xf (PG p0.toNatClampNeg).xa p1 p2 p3  (show 0 ≤ p2.toInt from by first | exact k108_4 | omega) (show p2.toInt ≤ 100 from by first | exact k108_5 | omega) (show 0 ≤ p3.toInt from by first | exact k108_6 | omega) (show p3.toInt ≤ 512 from by first | exact k108_7 | omega) hpo93.2.2 _) hT (pr := [wd_Mo cs mo mr (fun _ => none) mf_108 md_108 (gMo PG hq), fo 8 (fPg cs PG) p0.toNatClampNeg, fo 13 (fPr cs hq qr QO_108 QF_108 QA_108) (0 : Int32).toNatClampNeg]) (pcs := [wd_Mpr cs (hq (0 : Int32).toNatClampNeg) (qr (0 : Int32).toNatClampNeg) (fun _ => QO_108 (0 : Int32).toNatClampNeg) (QF_108 (0 : Int32).toNatClampNeg) (QA_108 (0 : Int32).toNatClampNeg) (fun _ _ => none), wdP cs (PG p0.toNatClampNeg).h (PG p0.toNatClampNeg).r (PG p0.toNatClampNeg).g (PG p0.toNatClampNeg).tf (PG p0.toNatClampNeg).ta (PG p0.toNatClampNeg).pf (PG p0.toNatClampNeg).na (PG p0.toNatClampNeg).ma (PG p0.toNatClampNeg).wa (PG p0.toNatClampNeg).cf (PG p0.toNatClampNeg).ca (PG p0.toNatClampNeg).ef (PG p0.toNatClampNeg).ea (PG p0.toNatClampNeg).xf (PG p0.toNatClampNeg).xa]) hw px_X.tt (px_recv hT hw 3 0 rfl rfl rfl) m13_155 m13_152 m13_153 m13_154 m1_22 q_Mpr_begin ⟨Nat.le_of_ble_eq_true rfl, Nat.le_of_ble_eq_true rfl⟩ hl.1 rfl (Nat.le_of_ble_eq_true rfl) d_Mo_run_181 ⟨Nat.le_of_ble_eq_true rfl, Nat.le_of_ble_eq_true rfl⟩) hw hA (fun p101 H locs hp101 hw => ?_)
        obtain ⟨qo98, qf99, qa100, rfl, e103, e104, e105, e106, e107, e108, e109, e110, e111, e112, e113⟩ := hp101
        have e103 : OpS qo98 (PG p0.toNatClampNeg).h := e103
        have hop := e103
        have e104 : (qf99 1).toInt = 1 := e104
        have e105 : (qf99 2).toInt = -2 := e105
        have e106 : (qf99 3).toInt = 0 := e106
        have e107 : (qf99 6).toInt = 0 := e107
        have e108 : (qf99 7).toInt = 0 := e108
        have e109 : (qf99 21).toInt = 0 := e109
        have e110 : (qf99 23).toInt = 0 := e110
        have e111 : (qf99 24).toInt = 0 := e111
        have e112 : ((PG p0.toNatClampNeg).xf 66).toInt = 2 → 0 ≤ (qf99 4).toInt ∧ (qf99 4).toInt ≤ 1600 := e112
        have e113 : PsQ ((PG p0.toNatClampNeg).xf 66).toInt (PsT ⟨(PG p0.toNatClampNeg).h, (PG p0.toNatClampNeg).r, (PG p0.toNatClampNeg).g, (PG p0.toNatClampNeg).tf, (PG p0.toNatClampNeg).ta, (PG p0.toNatClampNeg).pf, (PG p0.toNatClampNeg).na, (PG p0.toNatClampNeg).ma, (PG p0.toNatClampNeg).wa, (PG p0.toNatClampNeg).cf, (PG p0.toNatClampNeg).ca, (PG p0.toNatClampNeg).ef, (PG p0.toNatClampNeg).ea, (PG p0.toNatClampNeg).xf, (PG p0.toNatClampNeg).xa⟩ (RMX - 1) qf99 qa100) := e113
        skip
        have hw : pw D A s.heap H locs [wd_Mo cs mo mr (fun _ => none) mf_108 md_108 (gMo PG hq), fo 8 (fPg cs PG) p0.toNatClampNeg, fo 13 (fPr cs hq qr QO_108 QF_108 QA_108) (0 : Int32).toNatClampNeg, wd_Mpr cs (hq (0 : Int32).toNatClampNeg) (qr (0 : Int32).toNatClampNeg) qo98 qf99 qa100 (fun _ _ => none), wdP cs (PG p0.toNatClampNeg).h (PG p0.toNatClampNeg).r (PG p0.toNatClampNeg).g (PG p0.toNatClampNeg).tf (PG p0.toNatClampNeg).ta (PG p0.toNatClampNeg).pf (PG p0.toNatClampNeg).na (PG p0.toNatClampNeg).ma (PG p0.toNatClampNeg).wa (PG p0.toNatClampNeg).cf (PG p0.toNatClampNeg).ca (PG p0.toNatClampNeg).ef (PG p0.toNatClampNeg).ea (PG p0.toNatClampNeg).xf (PG p0.toNatClampNeg).xa] := hw
        refine lv_iconst (v := 1) S.x S.b d_Mo_run_184 (by decide) ?_
        refine lv_istore (lv' := [(5, .int 1), (0, .ref mo), (1, .int p0), (2, .int p1), (3, .int p2), (4, .int p3)]) S.x S.b d_Mo_run_185 hl (by decide) rfl (fun ls hl => ?_)
        have hw : pw D A s.heap _ _ [wd_Mo cs mo mr (fun _ => none) mf_108 md_108 (gMo PG hq), fo 8 (fPg cs PG) p0.toNatClampNeg, wdP cs (PG p0.toNatClampNeg).h (PG p0.toNatClampNeg).r (PG p0.toNatClampNeg).g (PG p0.toNatClampNeg).tf (PG p0.toNatClampNeg).ta (PG p0.toNatClampNeg).pf (PG p0.toNatClampNeg).na (PG p0.toNatClampNeg).ma (PG p0.toNatClampNeg).wa (PG p0.toNatClampNeg).cf (PG p0.toNatClampNeg).ca (PG p0.toNatClampNeg).ef (PG p0.toNatClampNeg).ea (PG p0.toNatClampNeg).xf (PG p0.toNatClampNeg).xa, fo 13 (fPr cs hq qr QO_108 QF_108 QA_108) (0 : Int32).toNatClampNeg, wd_Mpr cs (hq (0 : Int32).toNatClampNeg) (qr (0 : Int32).toNatClampNeg) qo98 qf99 qa100 (fun _ _ => none)] := hw.sub [0, 1, 4, 2, 3] rfl rfl
        have hw := fpr_in (pr := [wd_Mo cs mo mr (fun _ => none) mf_108 md_108 (gMo PG hq), fo 8 (fPg cs PG) p0.toNatClampNeg, wdP cs (PG p0.toNatClampNeg).h (PG p0.toNatClampNeg).r (PG p0.toNatClampNeg).g (PG p0.toNatClampNeg).tf (PG p0.toNatClampNeg).ta (PG p0.toNatClampNeg).pf (PG p0.toNatClampNeg).na (PG p0.toNatClampNeg).ma (PG p0.toNatClampNeg).wa (PG p0.toNatClampNeg).cf (PG p0.toNatClampNeg).ca (PG p0.toNatClampNeg).ef (PG p0.toNatClampNeg).ea (PG p0.toNatClampNeg).xf (PG p0.toNatClampNeg).xa]) hw hi94
        obtain ⟨QO114, hu_QO114⟩ : ∃ y : Nat → Option Nat, y = va_up QO_108 (0 : Int32).toNatClampNeg (qo98 0) := ⟨_, rfl⟩
        obtain ⟨QF115, hu_QF115⟩ : ∃ y : Nat → Nat → Int32, y = va_up QF_108 (0 : Int32).toNatClampNeg qf99 := ⟨_, rfl⟩
        obtain ⟨QA116, hu_QA116⟩ : ∃ y : Nat → Nat → Nat → Int32, y = va_up QA_108 (0 : Int32).toNatClampNeg qa100 := ⟨_, rfl⟩
        have hw : pw D A s.heap _ _ [wd_Mo cs mo mr (fun _ => none) mf_108 md_108 (gMo PG hq), fo 8 (fPg cs PG) p0.toNatClampNeg, wdP cs (PG p0.toNatClampNeg).h (PG p0.toNatClampNeg).r (PG p0.toNatClampNeg).g (PG p0.toNatClampNeg).tf (PG p0.toNatClampNeg).ta (PG p0.toNatClampNeg).pf (PG p0.toNatClampNeg).na (PG p0.toNatClampNeg).ma (PG p0.toNatClampNeg).wa (PG p0.toNatClampNeg).cf (PG p0.toNatClampNeg).ca (PG p0.toNatClampNeg).ef (PG p0.toNatClampNeg).ea (PG p0.toNatClampNeg).xf (PG p0.toNatClampNeg).xa, fm 13 (fPr cs hq qr QO114 QF115 QA116)] := (by rw [hu_QO114, hu_QF115, hu_QA116]; exact hw)
        have hpr : PrA PG (fun _ => RMX) QO114 QF115 QA116 := (by rw [hu_QO114, hu_QF115, hu_QA116]; exact PrA.upT hpr (psr_bg (j := p0.toNatClampNeg) hj92 hop (show (0 ≤ (qf99 1).toInt ∧ (qf99 1).toInt ≤ 1) ∧ (0 ≤ (qf99 21).toInt ∧ (qf99 21).toInt ≤ 4) ∧ (0 ≤ (qf99 23).toInt ∧ (qf99 23).toInt ≤ 4) ∧ (0 ≤ (qf99 24).toInt ∧ (qf99 24).toInt ≤ 1000000) ∧ (0 ≤ (qf99 6).toInt ∧ (qf99 6).toInt ≤ 3) ∧ (0 ≤ (qf99 7).toInt ∧ (qf99 7).toInt ≤ 1) from by omega) (Int.le_refl _) (by omega) (by omega) (by omega) (fun q9 => by omega) e113) (tri_0 hpz8 (by omega)))
        have hw : pw D A s.heap _ _ [wd_Mo cs mo mr (fun _ => none) mf_108 md_108 (gMo PG hq), fm 13 (fPr cs hq qr QO114 QF115 QA116), fo 8 (fPg cs PG) p0.toNatClampNeg, wdP cs (PG p0.toNatClampNeg).h (PG p0.toNatClampNeg).r (PG p0.toNatClampNeg).g (PG p0.toNatClampNeg).tf (PG p0.toNatClampNeg).ta (PG p0.toNatClampNeg).pf (PG p0.toNatClampNeg).na (PG p0.toNatClampNeg).ma (PG p0.toNatClampNeg).wa (PG p0.toNatClampNeg).cf (PG p0.toNatClampNeg).ca (PG p0.toNatClampNeg).ef (PG p0.toNatClampNeg).ea (PG p0.toNatClampNeg).xf (PG p0.toNatClampNeg).xa] := hw.sub [0, 3, 1, 2] rfl rfl
        have hw : pw D A s.heap _ _ [wd_Mo cs mo mr (fun _ => none) mf_108 md_108 (gMo PG hq), fm 13 (fPr cs hq qr QO114 QF115 QA116), fm 8 (fPg cs PG)] := fm_back (pr := [wd_Mo cs mo mr (fun _ => none) mf_108 md_108 (gMo PG hq), fm 13 (fPr cs hq qr QO114 QF115 QA116)]) (T := fPg cs PG) hw hj92
        exact J187 ((2 * sumR (fun _ => RMX) 13 + (1 : Int)).toNat + 1) mf_108 md_108 QO114 QF115 QA116 (fun _ => RMX) (1 : Int32) _ _ ls (show PrA PG (fun _ => RMX) QO114 QF115 QA116 from hpr) (show (mf_108 7).toInt = p2.toInt from by first | exact k108_2 | omega) (show (mf_108 8).toInt = p3.toInt from by first | exact k108_3 | omega) (show 0 ≤ p2.toInt from by first | exact k108_4 | omega) (show p2.toInt ≤ 100 from by first | exact k108_5 | omega) (show 0 ≤ p3.toInt from by first | exact k108_6 | omega) (show p3.toInt ≤ 512 from by first | exact k108_7 | omega) (show (mf_108 2).toInt = (mf 2).toInt from by first | exact k108_8 | omega) (show 0 ≤ (mf_108 10).toInt from by first | exact k108_9 | omega) (show (mf_108 10).toInt ≤ (mf 10).toInt from by first | exact k108_10 | omega) (show 0 ≤ p0.toInt from by first | exact k108_11 | omega) (show p0.toInt < 8 from by first | exact k108_12 | omega) (show (mf_108 3).toInt = (mf 3).toInt from by first | exact k108_13 | omega) (show (mf_108 10).toInt = (mf 10).toInt - p2.toInt - 30 from by first | exact k108_14 | omega) (show 1 ≤ ((PG p0.toNatClampNeg).xf 66).toInt from by first | exact k108_15 | omega) (show Md1 md md_108 from hmdq) (show 0 ≤ (1 : Int) from by first | exact oz_19c3a41681 | omega) (show (1 : Int) ≤ 1 from by first | exact oz_f9181dc4bb | omega) (show 2 * sumR (fun _ => RMX) 13 + (1 : Int) < ((((2 * sumR (fun _ => RMX) 13 + (1 : Int)).toNat + 1 : Nat) : Int) : Int) from by first | exact oz_natlt | omega) hw (lv_sub hl [1, 2, 3, 4, 5, 0] rfl)
      · have nc90 : ¬ (13 : Int) ≤ x108_5.toInt := mt (i_le (x := 13) (y := x108_5)).mpr c90
        refine lv_aload_n S.x S.b d_Mo_run_115 rfl (lv_at hl 0 rfl) ?_
        refine px_get S k_Mo hT hw 0 0 5 (v := .ref (mr 5)) rfl rfl rfl (by decide) m11_83 d_Mo_run_116 ?_
        refine lv_iload S.x S.b d_Mo_run_119 (lv_at hl 5 rfl) ?_
        refine px_aaldS S hT hw 0 3 10 (n := 13) (f := ((gMo PG hq) 5)) rfl rfl rfl (x := x108_5) (vp_in_iff.mpr (by first | exact oz_10a7a22e11 k108_17 nc90 | (constructor <;> omega))) (sk := (hq x108_5.toNatClampNeg)) rfl d_Mo_run_121 ?_
        refine lv_iconst (v := 0) S.x S.b d_Mo_run_122 (by decide) ?_
        have hw : pw D A s.heap _ _ [wd_Mo cs mo mr (fun _ => none) mf_108 md_108 (gMo PG hq), fm 8 (fPg cs PG), fm 13 (fPr cs hq qr QO_108 QF_108 QA_108)] := hw.sub [0, 2, 1] rfl rfl
        have hc117 := cl_nat (x := x108_5) (by first | exact k108_17 | omega)
        have hi117 : x108_5.toNatClampNeg < 13 := by first | exact oz_81bc16641b hc117 nc90 | omega
        have hw : pw D A s.heap _ _ [wd_Mo cs mo mr (fun _ => none) mf_108 md_108 (gMo PG hq), fm 8 (fPg cs PG), fo 13 (fPr cs hq qr QO_108 QF_108 QA_108) x108_5.toNatClampNeg, wd_Mpr cs (hq x108_5.toNatClampNeg) (qr x108_5.toNatClampNeg) (fun _ => QO_108 x108_5.toNatClampNeg) (QF_108 x108_5.toNatClampNeg) (QA_108 x108_5.toNatClampNeg) (fun _ _ => none)] := fm_out (pr := [wd_Mo cs mo mr (fun _ => none) mf_108 md_108 (gMo PG hq), fm 8 (fPg cs PG)]) (T := fPr cs hq qr QO_108 QF_108 QA_108) hw hi117
        have hpb117 := hpn x108_5.toNatClampNeg hi117
        unfold PsB at hpb117
        refine px_put S k_Mpr hT hw 3 0 1 rfl rfl (by decide) m10_224 rfl rfl rfl (Nat.le_of_ble_eq_true rfl) d_Mo_run_123 (w' := wd_Mpr cs (hq x108_5.toNatClampNeg) (qr x108_5.toNatClampNeg) (fun _ => QO_108 x108_5.toNatClampNeg) (upd (QF_108 x108_5.toNatClampNeg) 1 0) (QA_108 x108_5.toNatClampNeg) (fun _ _ => none)) (ps' := [wd_Mo cs mo mr (fun _ => none) mf_108 md_108 (gMo PG hq), fm 8 (fPg cs PG), fo 13 (fPr cs hq qr QO_108 QF_108 QA_108) x108_5.toNatClampNeg, wd_Mpr cs (hq x108_5.toNatClampNeg) (qr x108_5.toNatClampNeg) (fun _ => QO_108 x108_5.toNatClampNeg) (upd (QF_108 x108_5.toNatClampNeg) 1 0) (QA_108 x108_5.toNatClampNeg) (fun _ _ => none)]) rfl rfl (fun H locs hw => ?_)
        refine lv_aload_n S.x S.b d_Mo_run_126 rfl (lv_at hl 0 rfl) ?_
        refine px_get S k_Mo hT hw 0 0 5 (v := .ref (mr 5)) rfl rfl rfl (by decide) m11_83 d_Mo_run_127 ?_
        refine lv_iload S.x S.b d_Mo_run_130 (lv_at hl 5 rfl) ?_
        refine px_aaldS S hT hw 0 3 10 (n := 13) (f := ((gMo PG hq) 5)) rfl rfl rfl (x := x108_5) (vp_in_iff.mpr (by first | exact oz_10a7a22e11 k108_17 nc90 | (constructor <;> omega))) (sk := (hq x108_5.toNatClampNeg)) rfl d_Mo_run_132 ?_
        refine lv_iconst (v := 0) S.x S.b d_Mo_run_133 (by decide) ?_
        refine px_put S k_Mpr hT hw 3 0 21 rfl rfl (by decide) m11_16 rfl rfl rfl (Nat.le_of_ble_eq_true rfl) d_Mo_run_134 (w' := wd_Mpr cs (hq x108_5.toNatClampNeg) (qr x108_5.toNatClampNeg) (fun _ => QO_108 x108_5.toNatClampNeg) (upd (upd (QF_108 x108_5.toNatClampNeg) 1 0) 21 0) (QA_108 x108_5.toNatClampNeg) (fun _ _ => none)) (ps' := [wd_Mo cs mo mr (fun _ => none) mf_108 md_108 (gMo PG hq), fm 8 (fPg cs PG), fo 13 (fPr cs hq qr QO_108 QF_108 QA_108) x108_5.toNatClampNeg, wd_Mpr cs (hq x108_5.toNatClampNeg) (qr x108_5.toNatClampNeg) (fun _ => QO_108 x108_5.toNatClampNeg) (upd (upd (QF_108 x108_5.toNatClampNeg) 1 0) 21 0) (QA_108 x108_5.toNatClampNeg) (fun _ _ => none)]) rfl rfl (fun H locs hw => ?_)
        refine lv_aload_n S.x S.b d_Mo_run_137 rfl (lv_at hl 0 rfl) ?_
        refine px_get S k_Mo hT hw 0 0 5 (v := .ref (mr 5)) rfl rfl rfl (by decide) m11_83 d_Mo_run_138 ?_
        refine lv_iload S.x S.b d_Mo_run_141 (lv_at hl 5 rfl) ?_
        refine px_aaldS S hT hw 0 3 10 (n := 13) (f := ((gMo PG hq) 5)) rfl rfl rfl (x := x108_5) (vp_in_iff.mpr (by first | exact oz_10a7a22e11 k108_17 nc90 | (constructor <;> omega))) (sk := (hq x108_5.toNatClampNeg)) rfl d_Mo_run_143 ?_
        refine lv_iconst (v := 0) S.x S.b d_Mo_run_144 (by decide) ?_
        refine px_put S k_Mpr hT hw 3 0 23 rfl rfl (by decide) m11_20 rfl rfl rfl (Nat.le_of_ble_eq_true rfl) d_Mo_run_145 (w' := wd_Mpr cs (hq x108_5.toNatClampNeg) (qr x108_5.toNatClampNeg) (fun _ => QO_108 x108_5.toNatClampNeg) (upd (upd (upd (QF_108 x108_5.toNatClampNeg) 1 0) 21 0) 23 0) (QA_108 x108_5.toNatClampNeg) (fun _ _ => none)) (ps' := [wd_Mo cs mo mr (fun _ => none) mf_108 md_108 (gMo PG hq), fm 8 (fPg cs PG), fo 13 (fPr cs hq qr QO_108 QF_108 QA_108) x108_5.toNatClampNeg, wd_Mpr cs (hq x108_5.toNatClampNeg) (qr x108_5.toNatClampNeg) (fun _ => QO_108 x108_5.toNatClampNeg) (upd (upd (upd (QF_108 x108_5.toNatClampNeg) 1 0) 21 0) 23 0) (QA_108 x108_5.toNatClampNeg) (fun _ _ => none)]) rfl rfl (fun H locs hw => ?_)
        refine lv_aload_n S.x S.b d_Mo_run_148 rfl (lv_at hl 0 rfl) ?_
        refine px_get S k_Mo hT hw 0 0 5 (v := .ref (mr 5)) rfl rfl rfl (by decide) m11_83 d_Mo_run_149 ?_
        refine lv_iload S.x S.b d_Mo_run_152 (lv_at hl 5 rfl) ?_
        refine px_aaldS S hT hw 0 3 10 (n := 13) (f := ((gMo PG hq) 5)) rfl rfl rfl (x := x108_5) (vp_in_iff.mpr (by first | exact oz_10a7a22e11 k108_17 nc90 | (constructor <;> omega))) (sk := (hq x108_5.toNatClampNeg)) rfl d_Mo_run_154 ?_
        refine lv_iconst (v := 0) S.x S.b d_Mo_run_155 (by decide) ?_
        refine px_put S k_Mpr hT hw 3 0 24 rfl rfl (by decide) m11_22 rfl rfl rfl (Nat.le_of_ble_eq_true rfl) d_Mo_run_156 (w' := wd_Mpr cs (hq x108_5.toNatClampNeg) (qr x108_5.toNatClampNeg) (fun _ => QO_108 x108_5.toNatClampNeg) (upd (upd (upd (upd (QF_108 x108_5.toNatClampNeg) 1 0) 21 0) 23 0) 24 0) (QA_108 x108_5.toNatClampNeg) (fun _ _ => none)) (ps' := [wd_Mo cs mo mr (fun _ => none) mf_108 md_108 (gMo PG hq), fm 8 (fPg cs PG), fo 13 (fPr cs hq qr QO_108 QF_108 QA_108) x108_5.toNatClampNeg, wd_Mpr cs (hq x108_5.toNatClampNeg) (qr x108_5.toNatClampNeg) (fun _ => QO_108 x108_5.toNatClampNeg) (upd (upd (upd (upd (QF_108 x108_5.toNatClampNeg) 1 0) 21 0) 23 0) 24 0) (QA_108 x108_5.toNatClampNeg) (fun _ _ => none)]) rfl rfl (fun H locs hw => ?_)
        obtain ⟨z118, ez118⟩ : ∃ y : Int32, y = x108_5 + 1 := ⟨_, rfl⟩
        have tz118 : z118.toInt = (x108_5.toInt + 1 + 2147483648) % 4294967296 - 2147483648 := by rw [ez118]; exact i_add x108_5 1
        have lz118 := Int32.le_toInt z118
        have uz118 := Int32.toInt_lt z118
        try replace tz118 : z118.toInt = x108_5.toInt + 1 := by omega
        refine lv_iinc (v := z118) (lv' := [(5, .int z118), (0, .ref mo), (1, .int p0), (2, .int p1), (3, .int p2), (4, .int p3)]) S.x S.b d_Mo_run_159 hl (k := 5) rfl (by rw [ez118]; rfl) (by decide) rfl (fun ls hl => ?_)
        refine lv_goto (tgt := 108) S.x S.b d_Mo_run_162 (by decide) ?_
        have hw := fpr_in (pr := [wd_Mo cs mo mr (fun _ => none) mf_108 md_108 (gMo PG hq), fm 8 (fPg cs PG)]) hw hi117
        obtain ⟨QO119, hu_QO119⟩ : ∃ y : Nat → Option Nat, y = va_up QO_108 x108_5.toNatClampNeg ((fun _ => QO_108 x108_5.toNatClampNeg) 0) := ⟨_, rfl⟩
        obtain ⟨QF120, hu_QF120⟩ : ∃ y : Nat → Nat → Int32, y = va_up QF_108 x108_5.toNatClampNeg (upd (upd (upd (upd (QF_108 x108_5.toNatClampNeg) 1 0) 21 0) 23 0) 24 0) := ⟨_, rfl⟩
        obtain ⟨QA121, hu_QA121⟩ : ∃ y : Nat → Nat → Nat → Int32, y = va_up QA_108 x108_5.toNatClampNeg (QA_108 x108_5.toNatClampNeg) := ⟨_, rfl⟩
        have hw : pw D A s.heap _ _ [wd_Mo cs mo mr (fun _ => none) mf_108 md_108 (gMo PG hq), fm 8 (fPg cs PG), fm 13 (fPr cs hq qr QO119 QF120 QA121)] := (by rw [hu_QO119, hu_QF120, hu_QA121]; exact hw)
        have hpn : PrN QF120 := (by rw [hu_QF120]; exact PrN.up hpn (show (0 ≤ (0 : Int) ∧ (0 : Int) ≤ 1) ∧ (0 ≤ (0 : Int) ∧ (0 : Int) ≤ 4) ∧ (0 ≤ (0 : Int) ∧ (0 : Int) ≤ 4) ∧ (0 ≤ (0 : Int) ∧ (0 : Int) ≤ 1000000) ∧ (0 ≤ ((QF_108 x108_5.toNatClampNeg) 6).toInt ∧ ((QF_108 x108_5.toNatClampNeg) 6).toInt ≤ 3) ∧ (0 ≤ ((QF_108 x108_5.toNatClampNeg) 7).toInt ∧ ((QF_108 x108_5.toNatClampNeg) 7).toInt ≤ 1) from by omega))
        have hpz : PrZ QF120 (x108_5.toInt + 1) := (by rw [hu_QF120]; exact PrZ.up hpz (show (0 : Int) = 0 from rfl) (by omega) rfl)
        have hw : pw D A s.heap _ _ [wd_Mo cs mo mr (fun _ => none) mf_108 md_108 (gMo PG hq), fm 13 (fPr cs hq qr QO119 QF120 QA121), fm 8 (fPg cs PG)] := hw.sub [0, 2, 1] rfl rfl
        exact ih108 mf_108 md_108 QO119 QF120 QA121 z118 _ _ ls (show PrN QF120 from hpn) (show PrZ QF120 z118.toInt from (fun i9 q9 => hpz i9 (by omega))) (show (mf_108 7).toInt = p2.toInt from by first | exact k108_2 | omega) (show (mf_108 8).toInt = p3.toInt from by first | exact k108_3 | omega) (show 0 ≤ p2.toInt from by first | exact k108_4 | omega) (show p2.toInt ≤ 100 from by first | exact k108_5 | omega) (show 0 ≤ p3.toInt from by first | exact k108_6 | omega) (show p3.toInt ≤ 512 from by first | exact k108_7 | omega) (show (mf_108 2).toInt = (mf 2).toInt from by first | exact k108_8 | omega) (show 0 ≤ (mf_108 10).toInt from by first | exact k108_9 | omega) (show (mf_108 10).toInt ≤ (mf 10).toInt from by first | exact k108_10 | omega) (show 0 ≤ p0.toInt from by first | exact k108_11 | omega) (show p0.toInt < 8 from by first | exact k108_12 | omega) (show (mf_108 3).toInt = (mf 3).toInt from by first | exact k108_13 | omega) (show (mf_108 10).toInt = (mf 10).toInt - p2.toInt - 30 from by first | exact k108_14 | omega) (show 1 ≤ ((PG p0.toNatClampNeg).xf 66).toInt from by first | exact k108_15 | omega) (show Md1 md md_108 from hmdq) (show 0 ≤ z118.toInt from by first | exact oz_ae613611c0 tz118 k108_17 | omega) (show z118.toInt ≤ 13 from by first | exact oz_d342e04a5c tz118 nc90 | omega) (show 1 ≤ ((PG p0.toNatClampNeg).xf 66).toInt from by first | exact k108_15 | omega) (show ((PG p0.toNatClampNeg).xf 66).toInt ≤ 2 from by first | exact k108_20 | omega) (show 13 - z118.toInt < (n_108 : Int) from by first | exact oz_6680d080b4 hm tz118 | omega) hw (lv_sub hl [1, 2, 3, 4, 5, 0] rfl)
  refine lv_aload_n S.x S.b d_Mo_run_0 rfl (lv_at hl 0 rfl) ?_
  refine lv_iload_n S.x S.b d_Mo_run_1 rfl (lv_at hl 1 rfl) ?_
  refine px_calli (pr := [wd_Mo cs mo mr (fun _ => none) mf md (gMo PG hq), fm 13 (fPr cs hq qr QO QF QA), fm 8 (fPg cs PG)]) (px_runS (As := [.int p0]) (rest := [.ref mo]) S (c_mo_isProg2 l D cs  p0   _) hT (pr := [wd_Mo cs mo mr (fun _ => none) mf md (gMo PG hq), fm 13 (fPr cs hq qr QO QF QA), fm 8 (fPg cs PG)]) (pcs := []) hw px_X.tt m11_126 m11_124 m11_125 m1_20 q_Mo_isProgram ⟨Nat.le_of_ble_eq_true rfl, Nat.le_of_ble_eq_true rfl⟩ hl.1 rfl (Nat.le_of_ble_eq_true rfl) d_Mo_run_2 ⟨Nat.le_of_ble_eq_true rfl, Nat.le_of_ble_eq_true rfl⟩) hw hA (fun v123 p122 H locs hp122 hw => ?_)
  obtain ⟨rfl, e124, e125, e126⟩ := hp122
  have e124 : 0 ≤ v123.toInt := e124
  have e125 : v123.toInt ≤ 1 := e125
  have e126 : (v123.toInt = 1 ∧ 0 ≤ p0.toInt ∧ p0.toInt < 8) ∨ (v123.toInt = 0 ∧ (p0.toInt < 0 ∨ 8 ≤ p0.toInt)) := e126
  have hw : pw D A s.heap H locs [wd_Mo cs mo mr (fun _ => none) mf md (gMo PG hq), fm 13 (fPr cs hq qr QO QF QA), fm 8 (fPg cs PG)] := hw
  have lv123 := Int32.le_toInt v123
  have uv123 := Int32.toInt_lt v123
  refine lv_if_ne (tgt := 12) S.x S.b d_Mo_run_5 (by decide) (fun c127 => ?_) (fun c127 => ?_)
  · have nc127 : ¬ v123.toInt = (0 : Int) := mt (i_eq (x := v123) (y := 0)).mpr c127
    refine lv_iload_n S.x S.b d_Mo_run_12 rfl (lv_at hl 3 rfl) ?_
    refine lv_if_lt (tgt := 35) S.x S.b d_Mo_run_13 (by decide) (fun c129 => ?_) (fun c129 => ?_)
    · have nc129 : p2.toInt < (0 : Int) := (i_lt (x := p2) (y := 0)).mp c129
      refine lv_iconst (v := 2) S.x S.b d_Mo_run_35 (by decide) ?_
      refine lv_goto (tgt := 55) S.x S.b d_Mo_run_36 (by decide) ?_
      refine px_put S k_Mo hT hw 0 0 0 rfl rfl (by decide) m11_78 rfl rfl rfl (Nat.le_of_ble_eq_true rfl) d_Mo_run_55 (w' := wd_Mo cs mo mr (fun _ => none) (upd mf 0 2) md (gMo PG hq)) (ps' := [wd_Mo cs mo mr (fun _ => none) (upd mf 0 2) md (gMo PG hq), fm 13 (fPr cs hq qr QO QF QA), fm 8 (fPg cs PG)]) rfl rfl (fun H locs hw => ?_)
      refine lv_aload_n S.x S.b d_Mo_run_58 rfl (lv_at hl 0 rfl) ?_
      refine px_get S k_Mo hT hw 0 0 0 (v := .int 2) rfl rfl rfl (by decide) m11_78 d_Mo_run_59 ?_
      refine lv_if_le (tgt := 67) S.x S.b d_Mo_run_62 (by decide) (fun c131 => ?_) (fun c131 => ?_)
      · exact absurd c131 (by decide)
      ·
        refine lv_iconst (v := 0) S.x S.b d_Mo_run_65 (by decide) ?_
        exact px_iret (v := 0) S hr rfl hlk hAe hw (Nat.le_of_ble_eq_true rfl) (Nat.le_of_ble_eq_true rfl) (⟨(upd mf 0 2), md, QO, QF, QA, rfl, (show PrN QF from hpn), (show (mf 2).toInt = (mf 2).toInt from rfl), (show 0 ≤ (mf 10).toInt from by first | exact g0 | omega), (show (mf 10).toInt ≤ (mf 10).toInt from by first | exact oz_1cb5f934a5 | omega), (show (mf 3).toInt = (mf 3).toInt from rfl), (show Md1 md md from hmdq), (show ((p0.toInt < 0 ∨ 8 ≤ p0.toInt ∨ p2.toInt < 0 ∨ 100 < p2.toInt ∨ p3.toInt < 0 ∨ 512 < p3.toInt ∨ (mf 10).toInt < p2.toInt + 30) ∧ (mf 10).toInt = (mf 10).toInt) ∨ (0 ≤ p0.toInt ∧ p0.toInt < 8 ∧ 0 ≤ p2.toInt ∧ p2.toInt ≤ 100 ∧ 0 ≤ p3.toInt ∧ p3.toInt ≤ 512 ∧ p2.toInt + 30 ≤ (mf 10).toInt ∧ (((PG p0.toNatClampNeg).xf 66).toInt = 0 ∧ (mf 10).toInt = (mf 10).toInt ∨ 1 ≤ ((PG p0.toNatClampNeg).xf 66).toInt ∧ (mf 10).toInt = (mf 10).toInt - p2.toInt - 30)) from by omega)⟩) d_Mo_run_66
    · have nc129 : ¬ p2.toInt < (0 : Int) := mt (i_lt (x := p2) (y := 0)).mpr c129
      refine lv_iload_n S.x S.b d_Mo_run_16 rfl (lv_at hl 3 rfl) ?_
      refine lv_bipush (v := 100) S.x S.b d_Mo_run_17 (by decide) ?_
      refine lv_icmp_gt (tgt := 35) S.x S.b d_Mo_run_19 (by decide) (fun c132 => ?_) (fun c132 => ?_)
      · have nc132 : (100 : Int) < p2.toInt := (i_lt (x := 100) (y := p2)).mp c132
        refine lv_iconst (v := 2) S.x S.b d_Mo_run_35 (by decide) ?_
        refine lv_goto (tgt := 55) S.x S.b d_Mo_run_36 (by decide) ?_
        refine px_put S k_Mo hT hw 0 0 0 rfl rfl (by decide) m11_78 rfl rfl rfl (Nat.le_of_ble_eq_true rfl) d_Mo_run_55 (w' := wd_Mo cs mo mr (fun _ => none) (upd mf 0 2) md (gMo PG hq)) (ps' := [wd_Mo cs mo mr (fun _ => none) (upd mf 0 2) md (gMo PG hq), fm 13 (fPr cs hq qr QO QF QA), fm 8 (fPg cs PG)]) rfl rfl (fun H locs hw => ?_)
        refine lv_aload_n S.x S.b d_Mo_run_58 rfl (lv_at hl 0 rfl) ?_
        refine px_get S k_Mo hT hw 0 0 0 (v := .int 2) rfl rfl rfl (by decide) m11_78 d_Mo_run_59 ?_
        refine lv_if_le (tgt := 67) S.x S.b d_Mo_run_62 (by decide) (fun c134 => ?_) (fun c134 => ?_)
        · exact absurd c134 (by decide)
        ·
          refine lv_iconst (v := 0) S.x S.b d_Mo_run_65 (by decide) ?_
          exact px_iret (v := 0) S hr rfl hlk hAe hw (Nat.le_of_ble_eq_true rfl) (Nat.le_of_ble_eq_true rfl) (⟨(upd mf 0 2), md, QO, QF, QA, rfl, (show PrN QF from hpn), (show (mf 2).toInt = (mf 2).toInt from rfl), (show 0 ≤ (mf 10).toInt from by first | exact g0 | omega), (show (mf 10).toInt ≤ (mf 10).toInt from by first | exact oz_1cb5f934a5 | omega), (show (mf 3).toInt = (mf 3).toInt from rfl), (show Md1 md md from hmdq), (show ((p0.toInt < 0 ∨ 8 ≤ p0.toInt ∨ p2.toInt < 0 ∨ 100 < p2.toInt ∨ p3.toInt < 0 ∨ 512 < p3.toInt ∨ (mf 10).toInt < p2.toInt + 30) ∧ (mf 10).toInt = (mf 10).toInt) ∨ (0 ≤ p0.toInt ∧ p0.toInt < 8 ∧ 0 ≤ p2.toInt ∧ p2.toInt ≤ 100 ∧ 0 ≤ p3.toInt ∧ p3.toInt ≤ 512 ∧ p2.toInt + 30 ≤ (mf 10).toInt ∧ (((PG p0.toNatClampNeg).xf 66).toInt = 0 ∧ (mf 10).toInt = (mf 10).toInt ∨ 1 ≤ ((PG p0.toNatClampNeg).xf 66).toInt ∧ (mf 10).toInt = (mf 10).toInt - p2.toInt - 30)) from by omega)⟩) d_Mo_run_66
      · have nc132 : ¬ (100 : Int) < p2.toInt := mt (i_lt (x := 100) (y := p2)).mpr c132
        refine lv_iload S.x S.b d_Mo_run_22 (lv_at hl 4 rfl) ?_
        refine lv_if_lt (tgt := 35) S.x S.b d_Mo_run_24 (by decide) (fun c135 => ?_) (fun c135 => ?_)
        · have nc135 : p3.toInt < (0 : Int) := (i_lt (x := p3) (y := 0)).mp c135
          refine lv_iconst (v := 2) S.x S.b d_Mo_run_35 (by decide) ?_
          refine lv_goto (tgt := 55) S.x S.b d_Mo_run_36 (by decide) ?_
          refine px_put S k_Mo hT hw 0 0 0 rfl rfl (by decide) m11_78 rfl rfl rfl (Nat.le_of_ble_eq_true rfl) d_Mo_run_55 (w' := wd_Mo cs mo mr (fun _ => none) (upd mf 0 2) md (gMo PG hq)) (ps' := [wd_Mo cs mo mr (fun _ => none) (upd mf 0 2) md (gMo PG hq), fm 13 (fPr cs hq qr QO QF QA), fm 8 (fPg cs PG)]) rfl rfl (fun H locs hw => ?_)
          refine lv_aload_n S.x S.b d_Mo_run_58 rfl (lv_at hl 0 rfl) ?_
          refine px_get S k_Mo hT hw 0 0 0 (v := .int 2) rfl rfl rfl (by decide) m11_78 d_Mo_run_59 ?_
          refine lv_if_le (tgt := 67) S.x S.b d_Mo_run_62 (by decide) (fun c137 => ?_) (fun c137 => ?_)
          · exact absurd c137 (by decide)
          ·
            refine lv_iconst (v := 0) S.x S.b d_Mo_run_65 (by decide) ?_
            exact px_iret (v := 0) S hr rfl hlk hAe hw (Nat.le_of_ble_eq_true rfl) (Nat.le_of_ble_eq_true rfl) (⟨(upd mf 0 2), md, QO, QF, QA, rfl, (show PrN QF from hpn), (show (mf 2).toInt = (mf 2).toInt from rfl), (show 0 ≤ (mf 10).toInt from by first | exact g0 | omega), (show (mf 10).toInt ≤ (mf 10).toInt from by first | exact oz_1cb5f934a5 | omega), (show (mf 3).toInt = (mf 3).toInt from rfl), (show Md1 md md from hmdq), (show ((p0.toInt < 0 ∨ 8 ≤ p0.toInt ∨ p2.toInt < 0 ∨ 100 < p2.toInt ∨ p3.toInt < 0 ∨ 512 < p3.toInt ∨ (mf 10).toInt < p2.toInt + 30) ∧ (mf 10).toInt = (mf 10).toInt) ∨ (0 ≤ p0.toInt ∧ p0.toInt < 8 ∧ 0 ≤ p2.toInt ∧ p2.toInt ≤ 100 ∧ 0 ≤ p3.toInt ∧ p3.toInt ≤ 512 ∧ p2.toInt + 30 ≤ (mf 10).toInt ∧ (((PG p0.toNatClampNeg).xf 66).toInt = 0 ∧ (mf 10).toInt = (mf 10).toInt ∨ 1 ≤ ((PG p0.toNatClampNeg).xf 66).toInt ∧ (mf 10).toInt = (mf 10).toInt - p2.toInt - 30)) from by omega)⟩) d_Mo_run_66
        · have nc135 : ¬ p3.toInt < (0 : Int) := mt (i_lt (x := p3) (y := 0)).mpr c135
          refine lv_iload S.x S.b d_Mo_run_27 (lv_at hl 4 rfl) ?_
          refine lv_sipush (v := 512) S.x S.b d_Mo_run_29 (by decide) ?_
          refine lv_icmp_le (tgt := 39) S.x S.b d_Mo_run_32 (by decide) (fun c138 => ?_) (fun c138 => ?_)
          · have nc138 : p3.toInt ≤ (512 : Int) := (i_le (x := p3) (y := 512)).mp c138
            refine lv_aload_n S.x S.b d_Mo_run_39 rfl (lv_at hl 0 rfl) ?_
            refine px_get S k_Mo hT hw 0 0 10 (v := .int (mf 10)) rfl rfl rfl (by decide) m11_88 d_Mo_run_40 ?_
            refine lv_iload_n S.x S.b d_Mo_run_43 rfl (lv_at hl 3 rfl) ?_
            refine lv_bipush (v := 30) S.x S.b d_Mo_run_44 (by decide) ?_
            refine lv_iadd S.x S.b d_Mo_run_46 ?_
            refine lv_topi (fun z140 ez140 => ?_)
            have tz140 : z140.toInt = (p2.toInt + (30 : Int) + 2147483648) % 4294967296 - 2147483648 := by rw [ez140]; exact i_add p2 30
            have lz140 := Int32.le_toInt z140
            have uz140 := Int32.toInt_lt z140
            try replace tz140 : z140.toInt = p2.toInt + (30 : Int) := by omega
            refine lv_icmp_ge (tgt := 54) S.x S.b d_Mo_run_47 (by decide) (fun c141 => ?_) (fun c141 => ?_)
            · have nc141 : z140.toInt ≤ (mf 10).toInt := (i_le (x := z140) (y := (mf 10))).mp c141
              refine lv_iconst (v := 0) S.x S.b d_Mo_run_54 (by decide) ?_
              refine px_put S k_Mo hT hw 0 0 0 rfl rfl (by decide) m11_78 rfl rfl rfl (Nat.le_of_ble_eq_true rfl) d_Mo_run_55 (w' := wd_Mo cs mo mr (fun _ => none) (upd mf 0 0) md (gMo PG hq)) (ps' := [wd_Mo cs mo mr (fun _ => none) (upd mf 0 0) md (gMo PG hq), fm 13 (fPr cs hq qr QO QF QA), fm 8 (fPg cs PG)]) rfl rfl (fun H locs hw => ?_)
              refine lv_aload_n S.x S.b d_Mo_run_58 rfl (lv_at hl 0 rfl) ?_
              refine px_get S k_Mo hT hw 0 0 0 (v := .int 0) rfl rfl rfl (by decide) m11_78 d_Mo_run_59 ?_
              refine lv_if_le (tgt := 67) S.x S.b d_Mo_run_62 (by decide) (fun c143 => ?_) (fun c143 => ?_)
              ·
                refine lv_aload_n S.x S.b d_Mo_run_67 rfl (lv_at hl 0 rfl) ?_
                refine px_get S k_Mo hT hw 0 0 4 (v := .ref (mr 4)) rfl rfl rfl (by decide) m11_82 d_Mo_run_68 ?_
                refine lv_iload_n S.x S.b d_Mo_run_71 rfl (lv_at hl 1 rfl) ?_
                refine px_aaldS S hT hw 0 2 9 (n := 8) (f := ((gMo PG hq) 4)) rfl rfl rfl (x := p0) (vp_in_iff.mpr (by constructor <;> omega)) (sk := (PG p0.toNatClampNeg).h) rfl d_Mo_run_72 ?_
                have hc144 := cl_nat (x := p0) (by first | exact oz_016f458179 hc144 | omega)
                have hj144 : p0.toNatClampNeg < 8 := by omega
                have hw : pw D A s.heap _ _ [wd_Mo cs mo mr (fun _ => none) (upd mf 0 0) md (gMo PG hq), fm 13 (fPr cs hq qr QO QF QA), fo 8 (fPg cs PG) p0.toNatClampNeg, wdP cs (PG p0.toNatClampNeg).h (PG p0.toNatClampNeg).r (PG p0.toNatClampNeg).g (PG p0.toNatClampNeg).tf (PG p0.toNatClampNeg).ta (PG p0.toNatClampNeg).pf (PG p0.toNatClampNeg).na (PG p0.toNatClampNeg).ma (PG p0.toNatClampNeg).wa (PG p0.toNatClampNeg).cf (PG p0.toNatClampNeg).ca (PG p0.toNatClampNeg).ef (PG p0.toNatClampNeg).ea (PG p0.toNatClampNeg).xf (PG p0.toNatClampNeg).xa] := fm_out (pr := [wd_Mo cs mo mr (fun _ => none) (upd mf 0 0) md (gMo PG hq), fm 13 (fPr cs hq qr QO QF QA)]) (T := fPg cs PG) hw hj144
                have hpo145 := hpg p0.toNatClampNeg hj144
                have hp1145 := hpo145.1
                have hp2145 := hpo145.2.1
                have hP := hGG p0.toNatClampNeg hj144
                refine px_get S k_Mpg hT hw 3 0 66 (v := .int ((PG p0.toNatClampNeg).xf 66)) rfl rfl rfl (by decide) m10_67 d_Mo_run_73 ?_
                refine lv_if_ne (tgt := 81) S.x S.b d_Mo_run_76 (by decide) (fun c146 => ?_) (fun c146 => ?_)
                · have nc146 : ¬ ((PG p0.toNatClampNeg).xf 66).toInt = (0 : Int) := mt (i_eq (x := ((PG p0.toNatClampNeg).xf 66)) (y := 0)).mpr c146
                  refine lv_aload_n S.x S.b d_Mo_run_81 rfl (lv_at hl 0 rfl) ?_
                  refine lv_aload_n S.x S.b d_Mo_run_82 rfl (lv_at hl 0 rfl) ?_
                  refine px_get S k_Mo hT hw 0 0 10 (v := .int (mf 10)) rfl rfl rfl (by decide) m11_88 d_Mo_run_83 ?_
                  refine lv_iload_n S.x S.b d_Mo_run_86 rfl (lv_at hl 3 rfl) ?_
                  refine lv_isub S.x S.b d_Mo_run_87 ?_
                  have lr148 := Int32.le_toInt (mf 10)
                  have ur148 := Int32.toInt_lt (mf 10)
                  refine lv_topi (fun z149 ez149 => ?_)
                  have tz149 : z149.toInt = ((mf 10).toInt - p2.toInt + 2147483648) % 4294967296 - 2147483648 := by rw [ez149]; exact i_sub (mf 10) p2
                  have lz149 := Int32.le_toInt z149
                  have uz149 := Int32.toInt_lt z149
                  try replace tz149 : z149.toInt = (mf 10).toInt - p2.toInt := by omega
                  refine lv_bipush (v := 30) S.x S.b d_Mo_run_88 (by decide) ?_
                  refine lv_isub S.x S.b d_Mo_run_90 ?_
                  refine lv_topi (fun z150 ez150 => ?_)
                  have tz150 : z150.toInt = (z149.toInt - (30 : Int) + 2147483648) % 4294967296 - 2147483648 := by rw [ez150]; exact i_sub z149 30
                  have lz150 := Int32.le_toInt z150
                  have uz150 := Int32.toInt_lt z150
                  try replace tz150 : z150.toInt = z149.toInt - (30 : Int) := by omega
                  refine px_put S k_Mo hT hw 0 0 10 rfl rfl (by decide) m11_88 rfl rfl rfl (Nat.le_of_ble_eq_true rfl) d_Mo_run_91 (w' := wd_Mo cs mo mr (fun _ => none) (upd (upd mf 0 0) 10 z150) md (gMo PG hq)) (ps' := [wd_Mo cs mo mr (fun _ => none) (upd (upd mf 0 0) 10 z150) md (gMo PG hq), fm 13 (fPr cs hq qr QO QF QA), fo 8 (fPg cs PG) p0.toNatClampNeg, wdP cs (PG p0.toNatClampNeg).h (PG p0.toNatClampNeg).r (PG p0.toNatClampNeg).g (PG p0.toNatClampNeg).tf (PG p0.toNatClampNeg).ta (PG p0.toNatClampNeg).pf (PG p0.toNatClampNeg).na (PG p0.toNatClampNeg).ma (PG p0.toNatClampNeg).wa (PG p0.toNatClampNeg).cf (PG p0.toNatClampNeg).ca (PG p0.toNatClampNeg).ef (PG p0.toNatClampNeg).ea (PG p0.toNatClampNeg).xf (PG p0.toNatClampNeg).xa]) rfl rfl (fun H locs hw => ?_)
                  refine lv_aload_n S.x S.b d_Mo_run_94 rfl (lv_at hl 0 rfl) ?_
                  refine lv_iload_n S.x S.b d_Mo_run_95 rfl (lv_at hl 3 rfl) ?_
                  refine px_put S k_Mo hT hw 0 0 7 rfl rfl (by decide) m11_85 rfl rfl rfl (Nat.le_of_ble_eq_true rfl) d_Mo_run_96 (w' := wd_Mo cs mo mr (fun _ => none) (upd (upd (upd mf 0 0) 7 p2) 10 z150) md (gMo PG hq)) (ps' := [wd_Mo cs mo mr (fun _ => none) (upd (upd (upd mf 0 0) 7 p2) 10 z150) md (gMo PG hq), fm 13 (fPr cs hq qr QO QF QA), fo 8 (fPg cs PG) p0.toNatClampNeg, wdP cs (PG p0.toNatClampNeg).h (PG p0.toNatClampNeg).r (PG p0.toNatClampNeg).g (PG p0.toNatClampNeg).tf (PG p0.toNatClampNeg).ta (PG p0.toNatClampNeg).pf (PG p0.toNatClampNeg).na (PG p0.toNatClampNeg).ma (PG p0.toNatClampNeg).wa (PG p0.toNatClampNeg).cf (PG p0.toNatClampNeg).ca (PG p0.toNatClampNeg).ef (PG p0.toNatClampNeg).ea (PG p0.toNatClampNeg).xf (PG p0.toNatClampNeg).xa]) rfl rfl (fun H locs hw => ?_)
                  refine lv_aload_n S.x S.b d_Mo_run_99 rfl (lv_at hl 0 rfl) ?_
                  refine lv_iload S.x S.b d_Mo_run_100 (lv_at hl 4 rfl) ?_
                  refine px_put S k_Mo hT hw 0 0 8 rfl rfl (by decide) m11_86 rfl rfl rfl (Nat.le_of_ble_eq_true rfl) d_Mo_run_102 (w' := wd_Mo cs mo mr (fun _ => none) (upd (upd (upd (upd mf 0 0) 7 p2) 8 p3) 10 z150) md (gMo PG hq)) (ps' := [wd_Mo cs mo mr (fun _ => none) (upd (upd (upd (upd mf 0 0) 7 p2) 8 p3) 10 z150) md (gMo PG hq), fm 13 (fPr cs hq qr QO QF QA), fo 8 (fPg cs PG) p0.toNatClampNeg, wdP cs (PG p0.toNatClampNeg).h (PG p0.toNatClampNeg).r (PG p0.toNatClampNeg).g (PG p0.toNatClampNeg).tf (PG p0.toNatClampNeg).ta (PG p0.toNatClampNeg).pf (PG p0.toNatClampNeg).na (PG p0.toNatClampNeg).ma (PG p0.toNatClampNeg).wa (PG p0.toNatClampNeg).cf (PG p0.toNatClampNeg).ca (PG p0.toNatClampNeg).ef (PG p0.toNatClampNeg).ea (PG p0.toNatClampNeg).xf (PG p0.toNatClampNeg).xa]) rfl rfl (fun H locs hw => ?_)
                  refine lv_iconst (v := 0) S.x S.b d_Mo_run_105 (by decide) ?_
                  refine lv_istore (lv' := [(5, .int 0), (0, .ref mo), (1, .int p0), (2, .int p1), (3, .int p2), (4, .int p3)]) S.x S.b d_Mo_run_106 hl (by decide) rfl (fun ls hl => ?_)
                  have hw : pw D A s.heap _ _ [wd_Mo cs mo mr (fun _ => none) (upd (upd (upd (upd mf 0 0) 7 p2) 8 p3) 10 z150) md (gMo PG hq), fm 13 (fPr cs hq qr QO QF QA), fm 8 (fPg cs PG)] := fm_back (pr := [wd_Mo cs mo mr (fun _ => none) (upd (upd (upd (upd mf 0 0) 7 p2) 8 p3) 10 z150) md (gMo PG hq), fm 13 (fPr cs hq qr QO QF QA)]) (T := fPg cs PG) hw hj144
                  exact J108 ((13 - (0 : Int)).toNat + 1) (upd (upd (upd (upd mf 0 0) 7 p2) 8 p3) 10 z150) md QO QF QA (0 : Int32) _ _ ls (show PrN QF from hpn) (show PrZ QF (0 : Int) from (fun i9 q9 => absurd q9 (by omega))) (show p2.toInt = p2.toInt from rfl) (show p3.toInt = p3.toInt from rfl) (show 0 ≤ p2.toInt from by first | exact oz_18a5c06a28 nc129 | omega) (show p2.toInt ≤ 100 from by first | exact oz_694b8e2913 nc132 | omega) (show 0 ≤ p3.toInt from by first | exact oz_18a5c06a28 nc135 | omega) (show p3.toInt ≤ 512 from by first | exact oz_8100819c59 nc138 | omega) (show (mf 2).toInt = (mf 2).toInt from rfl) (show 0 ≤ z150.toInt from by first | exact oz_493e98d437 tz150 tz149 tz140 nc141 | omega) (show z150.toInt ≤ (mf 10).toInt from by first | exact oz_5aae3ef4c0 tz149 tz150 nc129 | omega) (show 0 ≤ p0.toInt from by first | exact oz_016f458179 hc144 | omega) (show p0.toInt < 8 from by first | exact oz_a7c5241a94 hc144 hj144 | omega) (show (mf 3).toInt = (mf 3).toInt from rfl) (show z150.toInt = (mf 10).toInt - p2.toInt - 30 from by first | exact oz_9ac3f52e78 tz149 tz150 | omega) (show 1 ≤ ((PG p0.toNatClampNeg).xf 66).toInt from by omega) (show Md1 md md from hmdq) (show 0 ≤ (0 : Int) from by first | exact oz_5a341f00aa | omega) (show (0 : Int) ≤ 13 from by first | exact oz_fc8b4ec74a | omega) (show 1 ≤ ((PG p0.toNatClampNeg).xf 66).toInt from by omega) (show ((PG p0.toNatClampNeg).xf 66).toInt ≤ 2 from by omega) (show 13 - (0 : Int) < ((((13 - (0 : Int)).toNat + 1 : Nat) : Int) : Int) from by first | exact oz_natlt | omega) hw (lv_sub hl [1, 2, 3, 4, 5, 0] rfl)
                · have nc146 : ((PG p0.toNatClampNeg).xf 66).toInt = (0 : Int) := (i_eq (x := ((PG p0.toNatClampNeg).xf 66)) (y := 0)).mp c146
                  refine lv_iconst (v := (-1)) S.x S.b d_Mo_run_79 (by decide) ?_
                  have hw : pw D A s.heap _ _ [wd_Mo cs mo mr (fun _ => none) (upd mf 0 0) md (gMo PG hq), fm 13 (fPr cs hq qr QO QF QA), fm 8 (fPg cs PG)] := fm_back (pr := [wd_Mo cs mo mr (fun _ => none) (upd mf 0 0) md (gMo PG hq), fm 13 (fPr cs hq qr QO QF QA)]) (T := fPg cs PG) hw hj144
                  exact px_iret (v := (-1)) S hr rfl hlk hAe hw (Nat.le_of_ble_eq_true rfl) (Nat.le_of_ble_eq_true rfl) (⟨(upd mf 0 0), md, QO, QF, QA, rfl, (show PrN QF from hpn), (show (mf 2).toInt = (mf 2).toInt from rfl), (show 0 ≤ (mf 10).toInt from by first | exact g0 | omega), (show (mf 10).toInt ≤ (mf 10).toInt from by first | exact oz_1cb5f934a5 | omega), (show (mf 3).toInt = (mf 3).toInt from rfl), (show Md1 md md from hmdq), (show ((p0.toInt < 0 ∨ 8 ≤ p0.toInt ∨ p2.toInt < 0 ∨ 100 < p2.toInt ∨ p3.toInt < 0 ∨ 512 < p3.toInt ∨ (mf 10).toInt < p2.toInt + 30) ∧ (mf 10).toInt = (mf 10).toInt) ∨ (0 ≤ p0.toInt ∧ p0.toInt < 8 ∧ 0 ≤ p2.toInt ∧ p2.toInt ≤ 100 ∧ 0 ≤ p3.toInt ∧ p3.toInt ≤ 512 ∧ p2.toInt + 30 ≤ (mf 10).toInt ∧ (((PG p0.toNatClampNeg).xf 66).toInt = 0 ∧ (mf 10).toInt = (mf 10).toInt ∨ 1 ≤ ((PG p0.toNatClampNeg).xf 66).toInt ∧ (mf 10).toInt = (mf 10).toInt - p2.toInt - 30)) from by omega)⟩) d_Mo_run_80
              · exact absurd c143 (by decide)
            · have nc141 : ¬ z140.toInt ≤ (mf 10).toInt := mt (i_le (x := z140) (y := (mf 10))).mpr c141
              refine lv_iconst (v := 3) S.x S.b d_Mo_run_50 (by decide) ?_
              refine lv_goto (tgt := 55) S.x S.b d_Mo_run_51 (by decide) ?_
              refine px_put S k_Mo hT hw 0 0 0 rfl rfl (by decide) m11_78 rfl rfl rfl (Nat.le_of_ble_eq_true rfl) d_Mo_run_55 (w' := wd_Mo cs mo mr (fun _ => none) (upd mf 0 3) md (gMo PG hq)) (ps' := [wd_Mo cs mo mr (fun _ => none) (upd mf 0 3) md (gMo PG hq), fm 13 (fPr cs hq qr QO QF QA), fm 8 (fPg cs PG)]) rfl rfl (fun H locs hw => ?_)
              refine lv_aload_n S.x S.b d_Mo_run_58 rfl (lv_at hl 0 rfl) ?_
              refine px_get S k_Mo hT hw 0 0 0 (v := .int 3) rfl rfl rfl (by decide) m11_78 d_Mo_run_59 ?_
              refine lv_if_le (tgt := 67) S.x S.b d_Mo_run_62 (by decide) (fun c151 => ?_) (fun c151 => ?_)
              · exact absurd c151 (by decide)
              ·
                refine lv_iconst (v := 0) S.x S.b d_Mo_run_65 (by decide) ?_
                exact px_iret (v := 0) S hr rfl hlk hAe hw (Nat.le_of_ble_eq_true rfl) (Nat.le_of_ble_eq_true rfl) (⟨(upd mf 0 3), md, QO, QF, QA, rfl, (show PrN QF from hpn), (show (mf 2).toInt = (mf 2).toInt from rfl), (show 0 ≤ (mf 10).toInt from by first | exact g0 | omega), (show (mf 10).toInt ≤ (mf 10).toInt from by first | exact oz_1cb5f934a5 | omega), (show (mf 3).toInt = (mf 3).toInt from rfl), (show Md1 md md from hmdq), (show ((p0.toInt < 0 ∨ 8 ≤ p0.toInt ∨ p2.toInt < 0 ∨ 100 < p2.toInt ∨ p3.toInt < 0 ∨ 512 < p3.toInt ∨ (mf 10).toInt < p2.toInt + 30) ∧ (mf 10).toInt = (mf 10).toInt) ∨ (0 ≤ p0.toInt ∧ p0.toInt < 8 ∧ 0 ≤ p2.toInt ∧ p2.toInt ≤ 100 ∧ 0 ≤ p3.toInt ∧ p3.toInt ≤ 512 ∧ p2.toInt + 30 ≤ (mf 10).toInt ∧ (((PG p0.toNatClampNeg).xf 66).toInt = 0 ∧ (mf 10).toInt = (mf 10).toInt ∨ 1 ≤ ((PG p0.toNatClampNeg).xf 66).toInt ∧ (mf 10).toInt = (mf 10).toInt - p2.toInt - 30)) from by omega)⟩) d_Mo_run_66
          · have nc138 : ¬ p3.toInt ≤ (512 : Int) := mt (i_le (x := p3) (y := 512)).mpr c138
            refine lv_iconst (v := 2) S.x S.b d_Mo_run_35 (by decide) ?_
            refine lv_goto (tgt := 55) S.x S.b d_Mo_run_36 (by decide) ?_
            refine px_put S k_Mo hT hw 0 0 0 rfl rfl (by decide) m11_78 rfl rfl rfl (Nat.le_of_ble_eq_true rfl) d_Mo_run_55 (w' := wd_Mo cs mo mr (fun _ => none) (upd mf 0 2) md (gMo PG hq)) (ps' := [wd_Mo cs mo mr (fun _ => none) (upd mf 0 2) md (gMo PG hq), fm 13 (fPr cs hq qr QO QF QA), fm 8 (fPg cs PG)]) rfl rfl (fun H locs hw => ?_)
            refine lv_aload_n S.x S.b d_Mo_run_58 rfl (lv_at hl 0 rfl) ?_
            refine px_get S k_Mo hT hw 0 0 0 (v := .int 2) rfl rfl rfl (by decide) m11_78 d_Mo_run_59 ?_
            refine lv_if_le (tgt := 67) S.x S.b d_Mo_run_62 (by decide) (fun c152 => ?_) (fun c152 => ?_)
            · exact absurd c152 (by decide)
            ·
              refine lv_iconst (v := 0) S.x S.b d_Mo_run_65 (by decide) ?_
              exact px_iret (v := 0) S hr rfl hlk hAe hw (Nat.le_of_ble_eq_true rfl) (Nat.le_of_ble_eq_true rfl) (⟨(upd mf 0 2), md, QO, QF, QA, rfl, (show PrN QF from hpn), (show (mf 2).toInt = (mf 2).toInt from rfl), (show 0 ≤ (mf 10).toInt from by first | exact g0 | omega), (show (mf 10).toInt ≤ (mf 10).toInt from by first | exact oz_1cb5f934a5 | omega), (show (mf 3).toInt = (mf 3).toInt from rfl), (show Md1 md md from hmdq), (show ((p0.toInt < 0 ∨ 8 ≤ p0.toInt ∨ p2.toInt < 0 ∨ 100 < p2.toInt ∨ p3.toInt < 0 ∨ 512 < p3.toInt ∨ (mf 10).toInt < p2.toInt + 30) ∧ (mf 10).toInt = (mf 10).toInt) ∨ (0 ≤ p0.toInt ∧ p0.toInt < 8 ∧ 0 ≤ p2.toInt ∧ p2.toInt ≤ 100 ∧ 0 ≤ p3.toInt ∧ p3.toInt ≤ 512 ∧ p2.toInt + 30 ≤ (mf 10).toInt ∧ (((PG p0.toNatClampNeg).xf 66).toInt = 0 ∧ (mf 10).toInt = (mf 10).toInt ∨ 1 ≤ ((PG p0.toNatClampNeg).xf 66).toInt ∧ (mf 10).toInt = (mf 10).toInt - p2.toInt - 30)) from by omega)⟩) d_Mo_run_66
  · have nc127 : v123.toInt = (0 : Int) := (i_eq (x := v123) (y := 0)).mp c127
    refine lv_iconst (v := 1) S.x S.b d_Mo_run_8 (by decide) ?_
    refine lv_goto (tgt := 55) S.x S.b d_Mo_run_9 (by decide) ?_
    refine px_put S k_Mo hT hw 0 0 0 rfl rfl (by decide) m11_78 rfl rfl rfl (Nat.le_of_ble_eq_true rfl) d_Mo_run_55 (w' := wd_Mo cs mo mr (fun _ => none) (upd mf 0 1) md (gMo PG hq)) (ps' := [wd_Mo cs mo mr (fun _ => none) (upd mf 0 1) md (gMo PG hq), fm 13 (fPr cs hq qr QO QF QA), fm 8 (fPg cs PG)]) rfl rfl (fun H locs hw => ?_)
    refine lv_aload_n S.x S.b d_Mo_run_58 rfl (lv_at hl 0 rfl) ?_
    refine px_get S k_Mo hT hw 0 0 0 (v := .int 1) rfl rfl rfl (by decide) m11_78 d_Mo_run_59 ?_
    refine lv_if_le (tgt := 67) S.x S.b d_Mo_run_62 (by decide) (fun c153 => ?_) (fun c153 => ?_)
    · exact absurd c153 (by decide)
    ·
      refine lv_iconst (v := 0) S.x S.b d_Mo_run_65 (by decide) ?_
      exact px_iret (v := 0) S hr rfl hlk hAe hw (Nat.le_of_ble_eq_true rfl) (Nat.le_of_ble_eq_true rfl) (⟨(upd mf 0 1), md, QO, QF, QA, rfl, (show PrN QF from hpn), (show (mf 2).toInt = (mf 2).toInt from rfl), (show 0 ≤ (mf 10).toInt from by first | exact g0 | omega), (show (mf 10).toInt ≤ (mf 10).toInt from by first | exact oz_1cb5f934a5 | omega), (show (mf 3).toInt = (mf 3).toInt from rfl), (show Md1 md md from hmdq), (show ((p0.toInt < 0 ∨ 8 ≤ p0.toInt ∨ p2.toInt < 0 ∨ 100 < p2.toInt ∨ p3.toInt < 0 ∨ 512 < p3.toInt ∨ (mf 10).toInt < p2.toInt + 30) ∧ (mf 10).toInt = (mf 10).toInt) ∨ (0 ≤ p0.toInt ∧ p0.toInt < 8 ∧ 0 ≤ p2.toInt ∧ p2.toInt ≤ 100 ∧ 0 ≤ p3.toInt ∧ p3.toInt ≤ 512 ∧ p2.toInt + 30 ≤ (mf 10).toInt ∧ (((PG p0.toNatClampNeg).xf 66).toInt = 0 ∧ (mf 10).toInt = (mf 10).toInt ∨ 1 ≤ ((PG p0.toNatClampNeg).xf 66).toInt ∧ (mf 10).toInt = (mf 10).toInt - p2.toInt - 30)) from by omega)⟩) d_Mo_run_66
