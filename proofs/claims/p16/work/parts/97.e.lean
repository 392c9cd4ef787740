theorem m12_122 : Cond.methodLink "HomeSystemModel$Program" 482 ⟨"HomeSystemModel$Program", "conditioned", "(I)I"⟩ ∈ AL := AL_12 (List.mem_of_getElem? (i := 122) rfl) rfl
theorem m12_125 : Cond.code ⟨"HomeSystemModel$Program", "conditioned", "(I)I"⟩ prog_16_method_53_code 3 (Option.some FieldType.int) ∈ AL := AL_12 (List.mem_of_getElem? (i := 125) rfl) rfl
theorem ms_11_0 : Cond.selects "HomeSystemModel$Program" ⟨"HomeSystemModel$Program", "conditioned", "(I)I"⟩ ⟨"HomeSystemModel$Program", "conditioned", "(I)I"⟩ ∈ AL := AL_p (q := (⟨"HomeSystemModel$Program", "conditioned", "(I)I"⟩, 69)) (by unfold lw_privs; exact List.mem_append_right _ (List.mem_append_right _ (List.mem_append_right _ (List.mem_append_right _ (List.mem_append_right _ (List.mem_append_right _ (List.mem_append_right _ (List.mem_append_right _ (List.mem_append_right _ (List.mem_append_right _ (List.mem_append_left _ (List.mem_of_getElem? (i := 0) rfl))))))))))))
theorem m12_124 : Cond.instanceMethod ⟨"HomeSystemModel$Program", "conditioned", "(I)I"⟩ ∈ AL := AL_12 (List.mem_of_getElem? (i := 124) rfl) rfl
theorem m12_134 : Cond.methodLink "HomeSystemModel$Program" 485 ⟨"HomeSystemModel$Program", "doing", "()I"⟩ ∈ AL := AL_12 (List.mem_of_getElem? (i := 134) rfl) rfl
theorem m12_137 : Cond.code ⟨"HomeSystemModel$Program", "doing", "()I"⟩ prog_16_method_54_code 2 (Option.some FieldType.int) ∈ AL := AL_12 (List.mem_of_getElem? (i := 137) rfl) rfl
theorem ms_11_3 : Cond.selects "HomeSystemModel$Program" ⟨"HomeSystemModel$Program", "doing", "()I"⟩ ⟨"HomeSystemModel$Program", "doing", "()I"⟩ ∈ AL := AL_p (q := (⟨"HomeSystemModel$Program", "doing", "()I"⟩, 69)) (by unfold lw_privs; exact List.mem_append_right _ (List.mem_append_right _ (List.mem_append_right _ (List.mem_append_right _ (List.mem_append_right _ (List.mem_append_right _ (List.mem_append_right _ (List.mem_append_right _ (List.mem_append_right _ (List.mem_append_right _ (List.mem_append_left _ (List.mem_of_getElem? (i := 3) rfl))))))))))))
theorem m12_136 : Cond.instanceMethod ⟨"HomeSystemModel$Program", "doing", "()I"⟩ ∈ AL := AL_12 (List.mem_of_getElem? (i := 136) rfl) rfl
theorem m12_138 : Cond.methodLink "HomeSystemModel$Program" 488 ⟨"HomeSystemModel$Program", "forLoop", "()I"⟩ ∈ AL := AL_12 (List.mem_of_getElem? (i := 138) rfl) rfl
theorem m12_141 : Cond.code ⟨"HomeSystemModel$Program", "forLoop", "()I"⟩ prog_16_method_55_code 3 (Option.some FieldType.int) ∈ AL := AL_12 (List.mem_of_getElem? (i := 141) rfl) rfl
theorem ms_11_4 : Cond.selects "HomeSystemModel$Program" ⟨"HomeSystemModel$Program", "forLoop", "()I"⟩ ⟨"HomeSystemModel$Program", "forLoop", "()I"⟩ ∈ AL := AL_p (q := (⟨"HomeSystemModel$Program", "forLoop", "()I"⟩, 69)) (by unfold lw_privs; exact List.mem_append_right _ (List.mem_append_right _ (List.mem_append_right _ (List.mem_append_right _ (List.mem_append_right _ (List.mem_append_right _ (List.mem_append_right _ (List.mem_append_right _ (List.mem_append_right _ (List.mem_append_right _ (List.mem_append_left _ (List.mem_of_getElem? (i := 4) rfl))))))))))))
theorem m12_140 : Cond.instanceMethod ⟨"HomeSystemModel$Program", "forLoop", "()I"⟩ ∈ AL := AL_12 (List.mem_of_getElem? (i := 140) rfl) rfl
theorem m12_142 : Cond.methodLink "HomeSystemModel$Program" 491 ⟨"HomeSystemModel$Program", "switching", "()I"⟩ ∈ AL := AL_12 (List.mem_of_getElem? (i := 142) rfl) rfl
theorem m12_145 : Cond.code ⟨"HomeSystemModel$Program", "switching", "()I"⟩ prog_16_method_56_code 4 (Option.some FieldType.int) ∈ AL := AL_12 (List.mem_of_getElem? (i := 145) rfl) rfl
theorem ms_11_5 : Cond.selects "HomeSystemModel$Program" ⟨"HomeSystemModel$Program", "switching", "()I"⟩ ⟨"HomeSystemModel$Program", "switching", "()I"⟩ ∈ AL := AL_p (q := (⟨"HomeSystemModel$Program", "switching", "()I"⟩, 69)) (by unfold lw_privs; exact List.mem_append_right _ (List.mem_append_right _ (List.mem_append_right _ (List.mem_append_right _ (List.mem_append_right _ (List.mem_append_right _ (List.mem_append_right _ (List.mem_append_right _ (List.mem_append_right _ (List.mem_append_right _ (List.mem_append_left _ (List.mem_of_getElem? (i := 5) rfl))))))))))))
theorem m12_144 : Cond.instanceMethod ⟨"HomeSystemModel$Program", "switching", "()I"⟩ ∈ AL := AL_12 (List.mem_of_getElem? (i := 144) rfl) rfl
theorem m12_118 : Cond.methodLink "HomeSystemModel$Program" 479 ⟨"HomeSystemModel$Program", "byKey", "(I)I"⟩ ∈ AL := AL_12 (List.mem_of_getElem? (i := 118) rfl) rfl
theorem m12_121 : Cond.code ⟨"HomeSystemModel$Program", "byKey", "(I)I"⟩ prog_16_method_52_code 3 (Option.some FieldType.int) ∈ AL := AL_12 (List.mem_of_getElem? (i := 121) rfl) rfl
theorem ms_10_15 : Cond.selects "HomeSystemModel$Program" ⟨"HomeSystemModel$Program", "byKey", "(I)I"⟩ ⟨"HomeSystemModel$Program", "byKey", "(I)I"⟩ ∈ AL := AL_p (q := (⟨"HomeSystemModel$Program", "byKey", "(I)I"⟩, 69)) (by unfold lw_privs; exact List.mem_append_right _ (List.mem_append_right _ (List.mem_append_right _ (List.mem_append_right _ (List.mem_append_right _ (List.mem_append_right _ (List.mem_append_right _ (List.mem_append_right _ (List.mem_append_right _ (List.mem_append_left _ (List.mem_of_getElem? (i := 15) rfl)))))))))))
theorem m12_120 : Cond.instanceMethod ⟨"HomeSystemModel$Program", "byKey", "(I)I"⟩ ∈ AL := AL_12 (List.mem_of_getElem? (i := 120) rfl) rfl
theorem m12_94 : Cond.methodLink "HomeSystemModel$Program" 470 ⟨"HomeSystemModel$Program", "block", "()I"⟩ ∈ AL := AL_12 (List.mem_of_getElem? (i := 94) rfl) rfl
theorem m12_97 : Cond.code ⟨"HomeSystemModel$Program", "block", "()I"⟩ prog_16_method_49_code 4 (Option.some FieldType.int) ∈ AL := AL_12 (List.mem_of_getElem? (i := 97) rfl) rfl
theorem ms_10_9 : Cond.selects "HomeSystemModel$Program" ⟨"HomeSystemModel$Program", "block", "()I"⟩ ⟨"HomeSystemModel$Program", "block", "()I"⟩ ∈ AL := AL_p (q := (⟨"HomeSystemModel$Program", "block", "()I"⟩, 69)) (by unfold lw_privs; exact List.mem_append_right _ (List.mem_append_right _ (List.mem_append_right _ (List.mem_append_right _ (List.mem_append_right _ (List.mem_append_right _ (List.mem_append_right _ (List.mem_append_right _ (List.mem_append_right _ (List.mem_append_left _ (List.mem_of_getElem? (i := 9) rfl)))))))))))
theorem m12_96 : Cond.instanceMethod ⟨"HomeSystemModel$Program", "block", "()I"⟩ ∈ AL := AL_12 (List.mem_of_getElem? (i := 96) rfl) rfl
abbrev b_Mpg_byKey : ByteArray := prog_16_method_52_code
def y_Mpg_byKey : MethodName := ⟨"HomeSystemModel$Program", "byKey", "(I)I"⟩
theorem d_Mpg_byKey_0 : decode b_Mpg_byKey 0 = .ok (.iload_n 1, 1) := by decide +kernel
theorem d_Mpg_byKey_1 : decode b_Mpg_byKey 1 = .ok (.tableswitch 168 4 14 #[59, 168, 59, 65, 70, 75, 168, 168, 80, 80, 120], 59) := by decide +kernel
theorem d_Mpg_byKey_60 : decode b_Mpg_byKey 60 = .ok (.aload_n 0, 1) := by decide +kernel
theorem d_Mpg_byKey_61 : decode b_Mpg_byKey 61 = .ok (.iload_n 1, 1) := by decide +kernel
theorem d_Mpg_byKey_62 : decode b_Mpg_byKey 62 = .ok (.invokevirtual 482, 3) := by decide +kernel
theorem d_Mpg_byKey_65 : decode b_Mpg_byKey 65 = .ok (.ireturn, 1) := by decide +kernel
theorem d_Mpg_byKey_66 : decode b_Mpg_byKey 66 = .ok (.aload_n 0, 1) := by decide +kernel
theorem d_Mpg_byKey_67 : decode b_Mpg_byKey 67 = .ok (.invokevirtual 485, 3) := by decide +kernel
theorem d_Mpg_byKey_70 : decode b_Mpg_byKey 70 = .ok (.ireturn, 1) := by decide +kernel
theorem d_Mpg_byKey_71 : decode b_Mpg_byKey 71 = .ok (.aload_n 0, 1) := by decide +kernel
theorem d_Mpg_byKey_72 : decode b_Mpg_byKey 72 = .ok (.invokevirtual 488, 3) := by decide +kernel
theorem d_Mpg_byKey_75 : decode b_Mpg_byKey 75 = .ok (.ireturn, 1) := by decide +kernel
theorem d_Mpg_byKey_76 : decode b_Mpg_byKey 76 = .ok (.aload_n 0, 1) := by decide +kernel
theorem d_Mpg_byKey_77 : decode b_Mpg_byKey 77 = .ok (.invokevirtual 491, 3) := by decide +kernel
theorem d_Mpg_byKey_80 : decode b_Mpg_byKey 80 = .ok (.ireturn, 1) := by decide +kernel
theorem d_Mpg_byKey_81 : decode b_Mpg_byKey 81 = .ok (.aload_n 0, 1) := by decide +kernel
theorem d_Mpg_byKey_82 : decode b_Mpg_byKey 82 = .ok (.dup, 1) := by decide +kernel
theorem d_Mpg_byKey_83 : decode b_Mpg_byKey 83 = .ok (.getfield 360, 3) := by decide +kernel
theorem d_Mpg_byKey_86 : decode b_Mpg_byKey 86 = .ok (.iconst 1, 1) := by decide +kernel
theorem d_Mpg_byKey_87 : decode b_Mpg_byKey 87 = .ok (.iadd, 1) := by decide +kernel
theorem d_Mpg_byKey_88 : decode b_Mpg_byKey 88 = .ok (.putfield 360, 3) := by decide +kernel
theorem d_Mpg_byKey_91 : decode b_Mpg_byKey 91 = .ok (.aload_n 0, 1) := by decide +kernel
theorem d_Mpg_byKey_92 : decode b_Mpg_byKey 92 = .ok (.ldc 101, 2) := by decide +kernel
theorem d_Mpg_byKey_94 : decode b_Mpg_byKey 94 = .ok (.invokevirtual 386, 3) := by decide +kernel
theorem d_Mpg_byKey_97 : decode b_Mpg_byKey 97 = .ok (.aload_n 0, 1) := by decide +kernel
theorem d_Mpg_byKey_98 : decode b_Mpg_byKey 98 = .ok (.iload_n 1, 1) := by decide +kernel
theorem d_Mpg_byKey_99 : decode b_Mpg_byKey 99 = .ok (.bipush 12, 2) := by decide +kernel
theorem d_Mpg_byKey_101 : decode b_Mpg_byKey 101 = .ok (.if_icmp .ne 8, 3) := by decide +kernel
theorem d_Mpg_byKey_104 : decode b_Mpg_byKey 104 = .ok (.bipush 31, 2) := by decide +kernel
theorem d_Mpg_byKey_106 : decode b_Mpg_byKey 106 = .ok (.goto 5, 3) := by decide +kernel
theorem d_Mpg_byKey_109 : decode b_Mpg_byKey 109 = .ok (.bipush 32, 2) := by decide +kernel
theorem d_Mpg_byKey_111 : decode b_Mpg_byKey 111 = .ok (.aload_n 0, 1) := by decide +kernel
theorem d_Mpg_byKey_112 : decode b_Mpg_byKey 112 = .ok (.getfield 360, 3) := by decide +kernel
theorem d_Mpg_byKey_115 : decode b_Mpg_byKey 115 = .ok (.iconst 2, 1) := by decide +kernel
theorem d_Mpg_byKey_116 : decode b_Mpg_byKey 116 = .ok (.isub, 1) := by decide +kernel
theorem d_Mpg_byKey_117 : decode b_Mpg_byKey 117 = .ok (.invokevirtual 406, 3) := by decide +kernel
theorem d_Mpg_byKey_120 : decode b_Mpg_byKey 120 = .ok (.ireturn, 1) := by decide +kernel
theorem d_Mpg_byKey_121 : decode b_Mpg_byKey 121 = .ok (.aload_n 0, 1) := by decide +kernel
theorem d_Mpg_byKey_122 : decode b_Mpg_byKey 122 = .ok (.bipush 33, 2) := by decide +kernel
theorem d_Mpg_byKey_124 : decode b_Mpg_byKey 124 = .ok (.aload_n 0, 1) := by decide +kernel
theorem d_Mpg_byKey_125 : decode b_Mpg_byKey 125 = .ok (.getfield 360, 3) := by decide +kernel
theorem d_Mpg_byKey_128 : decode b_Mpg_byKey 128 = .ok (.invokevirtual 406, 3) := by decide +kernel
theorem d_Mpg_byKey_131 : decode b_Mpg_byKey 131 = .ok (.istore_n 2, 1) := by decide +kernel
theorem d_Mpg_byKey_132 : decode b_Mpg_byKey 132 = .ok (.aload_n 0, 1) := by decide +kernel
theorem d_Mpg_byKey_133 : decode b_Mpg_byKey 133 = .ok (.dup, 1) := by decide +kernel
theorem d_Mpg_byKey_134 : decode b_Mpg_byKey 134 = .ok (.getfield 360, 3) := by decide +kernel
theorem d_Mpg_byKey_137 : decode b_Mpg_byKey 137 = .ok (.iconst 1, 1) := by decide +kernel
theorem d_Mpg_byKey_138 : decode b_Mpg_byKey 138 = .ok (.iadd, 1) := by decide +kernel
theorem d_Mpg_byKey_139 : decode b_Mpg_byKey 139 = .ok (.putfield 360, 3) := by decide +kernel
theorem d_Mpg_byKey_142 : decode b_Mpg_byKey 142 = .ok (.aload_n 0, 1) := by decide +kernel
theorem d_Mpg_byKey_143 : decode b_Mpg_byKey 143 = .ok (.ldc 101, 2) := by decide +kernel
theorem d_Mpg_byKey_145 : decode b_Mpg_byKey 145 = .ok (.invokevirtual 366, 3) := by decide +kernel
theorem d_Mpg_byKey_148 : decode b_Mpg_byKey 148 = .ok (.ifCond .ne 13, 3) := by decide +kernel
theorem d_Mpg_byKey_151 : decode b_Mpg_byKey 151 = .ok (.aload_n 0, 1) := by decide +kernel
theorem d_Mpg_byKey_152 : decode b_Mpg_byKey 152 = .ok (.getfield 216, 3) := by decide +kernel
theorem d_Mpg_byKey_155 : decode b_Mpg_byKey 155 = .ok (.iload_n 2, 1) := by decide +kernel
theorem d_Mpg_byKey_156 : decode b_Mpg_byKey 156 = .ok (.aload_n 0, 1) := by decide +kernel
theorem d_Mpg_byKey_157 : decode b_Mpg_byKey 157 = .ok (.invokevirtual 403, 3) := by decide +kernel
theorem d_Mpg_byKey_160 : decode b_Mpg_byKey 160 = .ok (.iastore, 1) := by decide +kernel
theorem d_Mpg_byKey_161 : decode b_Mpg_byKey 161 = .ok (.aload_n 0, 1) := by decide +kernel
theorem d_Mpg_byKey_162 : decode b_Mpg_byKey 162 = .ok (.ldc 101, 2) := by decide +kernel
theorem d_Mpg_byKey_164 : decode b_Mpg_byKey 164 = .ok (.invokevirtual 386, 3) := by decide +kernel
theorem d_Mpg_byKey_167 : decode b_Mpg_byKey 167 = .ok (.iload_n 2, 1) := by decide +kernel
theorem d_Mpg_byKey_168 : decode b_Mpg_byKey 168 = .ok (.ireturn, 1) := by decide +kernel
theorem d_Mpg_byKey_169 : decode b_Mpg_byKey 169 = .ok (.aload_n 0, 1) := by decide +kernel
theorem d_Mpg_byKey_170 : decode b_Mpg_byKey 170 = .ok (.iconst 0, 1) := by decide +kernel
theorem d_Mpg_byKey_171 : decode b_Mpg_byKey 171 = .ok (.invokevirtual 373, 3) := by decide +kernel
theorem d_Mpg_byKey_174 : decode b_Mpg_byKey 174 = .ok (.iconst (-1), 1) := by decide +kernel
theorem d_Mpg_byKey_175 : decode b_Mpg_byKey 175 = .ok (.ireturn, 1) := by decide +kernel
theorem q_Mpg_byKey : px_y y_Mpg_byKey 1 := by unfold px_y; decide +kernel
set_option maxHeartbeats 4000000 in
set_option maxRecDepth 100000 in
theorem c_mp_byKey (l : Launch) (D : va_G) (cs : Nat → ClassId) (h : Nat) (r : Nat → Nat) (g : Nat → Nat → Option Nat) (tf : Nat → Int32) (ta : Nat → Nat → Int32) (cf : Nat → Int32) (ca : Nat → Nat → Int32) (ef : Nat → Int32) (ea : Nat → Nat → Int32) (xf : Nat → Int32) (xa : Nat → Nat → Int32) (pf : Nat → Int32) (na : Nat → Nat → Int32) (ma : Nat → Nat → Int32) (wa : Nat → Nat → Int32) (p0 : Int32) (lv : Nat) (g0 : 0 ≤ (pf 11).toInt) (g1 : (pf 11).toInt < (tf 6).toInt) (g2 : (tf 6).toInt ≤ 2049) (g3 : 0 ≤ (pf 12).toInt) (g4 : (pf 12).toInt ≤ 60) (g5 : 0 ≤ (pf 13).toInt) (g6 : (pf 13).toInt ≤ (pf 11).toInt + 10) (g7 : 0 ≤ (pf 26).toInt) (g8 : (pf 26).toInt ≤ (pf 12).toInt) (g9 : 61 ≤ (pf 12).toInt + (lv : Int)) (g10 : lv ≤ 61) (g11 : (pf 11).toInt + 1 < (tf 6).toInt) (hlf : l.flags = pinnedFlags ++ [noTraceFlag]) (htk : TkI tf ta) (hLT : LvT l D cs lv) : ThI l y_Mpg_byKey b_Mpg_byKey 3 (.int) D cs (8 * lv + 27) (220 * lv + 1240) [.ref h, .int p0] [wdP cs h r g tf ta pf na ma wa cf ca ef ea xf xa] (oX (fun A U H => (oN A U H) ∧ (oP A g U H)) [wdP cs h r g tf ta pf na ma wa cf ca ef ea xf xa]) "java/lang/IllegalArgumentException" (fun v ps => ∃ (pf' : Nat → Int32) (na' : Nat → Nat → Int32) (ma' : Nat → Nat → Int32) (wa' : Nat → Nat → Int32), (ps = [wdP cs h r g tf ta pf' na' ma' wa' cf ca ef ea xf xa]) ∧ ((pf 11).toInt + 1 ≤ (pf' 11).toInt) ∧ ((pf' 11).toInt < (tf 6).toInt) ∧ ((pf 13).toInt + 1 ≤ (pf' 13).toInt) ∧ ((pf' 13).toInt - (pf 13).toInt ≤ (pf' 11).toInt - (pf 11).toInt) ∧ (bp ta (pf 11) + 1 ≤ bp ta (pf' 11)) ∧ ((pf' 12).toInt = (pf 12).toInt) ∧ ((pf' 24).toInt = (pf 24).toInt) ∧ ((pf' 25).toInt = (pf 25).toInt) ∧ ((pf' 26).toInt = (pf 26).toInt) ∧ (FrB (pf 13).toInt na ma na' ma') ∧ (FrW (pf 26).toInt wa wa') ∧ (VlS ta (tf 6).toInt na' ma' v (pf 13).toInt (pf' 13).toInt (3 * (bp ta (pf' 11) - bp ta (pf 11))) (200 - (pf 12).toInt))) (fun ps => ∃ (pf' : Nat → Int32) (na' : Nat → Nat → Int32) (ma' : Nat → Nat → Int32) (wa' : Nat → Nat → Int32), ps = [wdP cs h r g tf ta pf' na' ma' wa' cf ca ef ea xf xa] ∧ 0 ≤ (pf' 11).toInt ∧ (pf' 11).toInt + 1 ≤ (tf 6).toInt) := by
  refine th_enter (by decide) (Nat.le_of_ble_eq_true rfl) ?_
  intro p e s m below meth c A ls hAe S hr hlk hnm hA hT hX hw hl hne hadm
  have hl : lv_has ls 3 [(0, .ref h), (1, .int p0)] := hl
  have lp0 := Int32.le_toInt p0
  have up0 := Int32.toInt_lt p0
  have cstm1 : ((-1) : Int32).toInt = (-1) := rfl
  have cst0 : (0 : Int32).toInt = 0 := rfl
  have cst1 : (1 : Int32).toInt = 1 := rfl
  have cst2 : (2 : Int32).toInt = 2 := rfl
  have cst12 : (12 : Int32).toInt = 12 := rfl
  have cst31 : (31 : Int32).toInt = 31 := rfl
  have cst32 : (32 : Int32).toInt = 32 := rfl
  have cst33 : (33 : Int32).toInt = 33 := rfl
  have hX : (fun A U H => (oN A U H) ∧ (oP A g U H)) A s s.heap := by rw [hAe]; exact hX
  obtain ⟨hN, hP⟩ := hX
  have hZ := hP.1
  have hF0 := hP.2.1
  have hfb : FrB (pf 13).toInt na ma na ma := FrB.rf
  have hfw : FrW (pf 26).toInt wa wa := FrW.rf
  refine lv_iload_n S.x S.b d_Mpg_byKey_0 rfl (lv_at hl 1 rfl) ?_
  refine px_tableK S (dt := 169) [(60, [4, 6]), (169, [5, 10, 11]), (66, [7]), (71, [8]), (76, [9]), (81, [12, 13]), (121, [14])] d_Mpg_byKey_1 (by decide +kernel) (by decide) (by decide +kernel) ?_ ?_
  ·
    refine lv_aload_n S.x S.b d_Mpg_byKey_169 rfl (lv_at hl 0 rfl) ?_
    refine lv_iconst (v := 0) S.x S.b d_Mpg_byKey_170 (by decide) ?_
    refine th_callv (ps0 := [wdP cs h r g tf ta pf na ma wa cf ca ef ea xf xa]) (pr := [wdP cs h r g tf ta pf na ma wa cf ca ef ea xf xa]) (pcs := []) (As := [.int 0]) (rest := []) (c_mp_need l hlf D cs h 0) S hT hw (oX_call (P := (fun A U H => (oN A U H))) (pr := [wdP cs h r g tf ta pf na ma wa cf ca ef ea xf xa]) oG_N hw hA hN) (px_recv hT hw 0 0 rfl rfl rfl) m11_233 m11_230 m11_232 ms_9_0 m1_21 q_Mpg_need ⟨show 6 + 1 ≤ (8 * lv + 27) from by omega, show 8 + (2 + 11) + 100 ≤ (220 * lv + 1240) from by omega⟩ hl.1 rfl (Nat.le_of_ble_eq_true rfl) d_Mpg_byKey_171 ⟨Nat.le_of_ble_eq_true rfl, Nat.le_of_ble_eq_true rfl⟩ hne hlk hA hAe (fun o t h => Or.inr h) ?_ (fun p1 H locs hp1 hw => ?_)
    · exact fun p1 H1 locs1 hp hw => by subst hp; exact ⟨_, ⟨pf, na, ma, wa, rfl, by omega, by omega⟩, hw.sub [0] rfl rfl⟩
    obtain ⟨rfl, hndp1⟩ := hp1
    have hndp1 : ¬ (0 : Int) = 0 := hndp1
    have hw : pw D A s.heap H locs [wdP cs h r g tf ta pf na ma wa cf ca ef ea xf xa] := hw
    refine lv_iconst (v := (-1)) S.x S.b d_Mpg_byKey_174 (by decide) ?_
    exact th_iret (v := (-1)) S hr rfl hlk hAe hw (⟨pf, na, ma, wa, rfl, (show (pf 11).toInt + 1 ≤ (pf 11).toInt from by omega), (show (pf 11).toInt < (tf 6).toInt from by omega), (show (pf 13).toInt + 1 ≤ (pf 13).toInt from by omega), (show (pf 13).toInt - (pf 13).toInt ≤ (pf 11).toInt - (pf 11).toInt from by omega), (show bp ta (pf 11) + 1 ≤ bp ta (pf 11) from by omega), (show (pf 12).toInt = (pf 12).toInt from by omega), (show (pf 24).toInt = (pf 24).toInt from by omega), (show (pf 25).toInt = (pf 25).toInt from by omega), (show (pf 26).toInt = (pf 26).toInt from by omega), (show FrB (pf 13).toInt na ma na ma from hfb), (show FrW (pf 26).toInt wa wa from hfw), (show VlS ta (tf 6).toInt na ma (-1 : Int32) (pf 13).toInt (pf 13).toInt (3 * (bp ta (pf 11) - bp ta (pf 11))) (200 - (pf 12).toInt) from (absurd (show (0 : Int) = 0 from rfl) (by omega)))⟩) d_Mpg_byKey_175
  · refine List.forall_mem_cons.mpr ⟨fun c3 => ?_, List.forall_mem_cons.mpr ⟨fun c3 => ?_, List.forall_mem_cons.mpr ⟨fun c3 => ?_, List.forall_mem_cons.mpr ⟨fun c3 => ?_, List.forall_mem_cons.mpr ⟨fun c3 => ?_, List.forall_mem_cons.mpr ⟨fun c3 => ?_, List.forall_mem_cons.mpr ⟨fun c3 => ?_, fun _ h => absurd h List.not_mem_nil⟩⟩⟩⟩⟩⟩⟩
    · simp only [List.mem_cons, List.not_mem_nil, or_false] at c3
      refine lv_aload_n S.x S.b d_Mpg_byKey_60 rfl (lv_at hl 0 rfl) ?_
      refine lv_iload_n S.x S.b d_Mpg_byKey_61 rfl (lv_at hl 1 rfl) ?_
      refine th_calli (ps0 := [wdP cs h r g tf ta pf na ma wa cf ca ef ea xf xa]) (pr := []) (pcs := [wdP cs h r g tf ta pf na ma wa cf ca ef ea xf xa]) (As := [.int p0]) (rest := []) (c_mp_conditioned l D cs h r g tf ta cf ca ef ea xf xa pf na ma wa p0 lv (show 0 ≤ (pf 11).toInt from by omega) (show (pf 11).toInt < (tf 6).toInt from by omega) (show (tf 6).toInt ≤ 2049 from by omega) (show 0 ≤ (pf 12).toInt from by omega) (show (pf 12).toInt ≤ 60 from by omega) (show 0 ≤ (pf 13).toInt from by omega) (show (pf 13).toInt ≤ (pf 11).toInt + 10 from by omega) (show 0 ≤ (pf 26).toInt from by omega) (show (pf 26).toInt ≤ (pf 12).toInt from by omega) (show 61 ≤ (pf 12).toInt + (lv : Int) from by omega) (show lv ≤ 61 from by omega) (show (pf 11).toInt + 1 < (tf 6).toInt from by omega) hlf htk hLT) S hT hw (oX_call (P := (fun A U H => (oN A U H) ∧ (oP A g U H))) (pr := []) (oG_and oG_N oG_P) hw hA ⟨hN, hP⟩) (px_recv hT hw 0 0 rfl rfl rfl) m12_125 m12_122 m12_124 ms_11_0 m1_21 q_Mpg_conditioned ⟨show (8 * lv + 26) + 1 ≤ (8 * lv + 27) from by omega, show 8 + (3 + 11) + (220 * lv + 1200) ≤ (220 * lv + 1240) from by omega⟩ hl.1 rfl (Nat.le_of_ble_eq_true rfl) d_Mpg_byKey_62 ⟨Nat.le_of_ble_eq_true rfl, Nat.le_of_ble_eq_true rfl⟩ hne hlk hA hAe (fun o t h => Or.inr h) ?_ (fun v13 p12 H locs hp12 hw => ?_)
      · exact fun p1 H1 locs1 hp hw => by obtain ⟨pq1, pq2, pq3, pq4, rfl, hq1, hq2⟩ := hp; exact ⟨_, ⟨pq1, pq2, pq3, pq4, rfl, hq1, hq2⟩, hw⟩
      obtain ⟨pf8, na9, ma10, wa11, rfl, e14, e15, e16, e17, e18, e19, e20, e21, e22, e23, e24, e25⟩ := hp12
      have e14 : (pf 11).toInt + 1 ≤ (pf8 11).toInt := e14
      have e15 : (pf8 11).toInt < (tf 6).toInt := e15
      have e16 : (pf 13).toInt + 1 ≤ (pf8 13).toInt := e16
      have e17 : (pf8 13).toInt - (pf 13).toInt ≤ (pf8 11).toInt - (pf 11).toInt := e17
      have e18 : bp ta (pf 11) + 1 ≤ bp ta (pf8 11) := e18
      have e19 : (pf8 12).toInt = (pf 12).toInt := e19
      have e20 : (pf8 24).toInt = (pf 24).toInt := e20
      have e21 : (pf8 25).toInt = (pf 25).toInt := e21
      have e22 : (pf8 26).toInt = (pf 26).toInt := e22
      have e23 : FrB (pf 13).toInt na ma na9 ma10 := e23
      have hfb := hfb.tr e23 (by omega)
      have e24 : FrW (pf 26).toInt wa wa11 := e24
      have hfw := hfw.tr e24 (by omega)
      have e25 : VlS ta (tf 6).toInt na9 ma10 v13 (pf 13).toInt (pf8 13).toInt (3 * (bp ta (pf8 11) - bp ta (pf 11))) (200 - (pf 12).toInt) := e25
      have hv_v13 := e25
      have hn_hv_v13 := hv_v13.num fs_ok
      have hw : pw D A s.heap H locs [wdP cs h r g tf ta pf8 na9 ma10 wa11 cf ca ef ea xf xa] := hw
      have lv13 := Int32.le_toInt v13
      have uv13 := Int32.toInt_lt v13
      exact th_iret (v := v13) S hr rfl hlk hAe hw (⟨pf8, na9, ma10, wa11, rfl, (show (pf 11).toInt + 1 ≤ (pf8 11).toInt from by omega), (show (pf8 11).toInt < (tf 6).toInt from by omega), (show (pf 13).toInt + 1 ≤ (pf8 13).toInt from by omega), (show (pf8 13).toInt - (pf 13).toInt ≤ (pf8 11).toInt - (pf 11).toInt from by omega), (show bp ta (pf 11) + 1 ≤ bp ta (pf8 11) from by omega), (show (pf8 12).toInt = (pf 12).toInt from by omega), (show (pf8 24).toInt = (pf 24).toInt from by omega), (show (pf8 25).toInt = (pf 25).toInt from by omega), (show (pf8 26).toInt = (pf 26).toInt from by omega), (show FrB (pf 13).toInt na ma na9 ma10 from hfb), (show FrW (pf 26).toInt wa wa11 from hfw), (show VlS ta (tf 6).toInt na9 ma10 v13 (pf 13).toInt (pf8 13).toInt (3 * (bp ta (pf8 11) - bp ta (pf 11))) (200 - (pf 12).toInt) from (VlV.le hv_v13 (by omega) (by omega) (by omega) (by omega)))⟩) d_Mpg_byKey_65
    · simp only [List.mem_cons, List.not_mem_nil, or_false] at c3
      refine lv_aload_n S.x S.b d_Mpg_byKey_169 rfl (lv_at hl 0 rfl) ?_
      refine lv_iconst (v := 0) S.x S.b d_Mpg_byKey_170 (by decide) ?_
      refine th_callv (ps0 := [wdP cs h r g tf ta pf na ma wa cf ca ef ea xf xa]) (pr := [wdP cs h r g tf ta pf na ma wa cf ca ef ea xf xa]) (pcs := []) (As := [.int 0]) (rest := []) (c_mp_need l hlf D cs h 0) S hT hw (oX_call (P := (fun A U H => (oN A U H))) (pr := [wdP cs h r g tf ta pf na ma wa cf ca ef ea xf xa]) oG_N hw hA hN) (px_recv hT hw 0 0 rfl rfl rfl) m11_233 m11_230 m11_232 ms_9_0 m1_21 q_Mpg_need ⟨show 6 + 1 ≤ (8 * lv + 27) from by omega, show 8 + (2 + 11) + 100 ≤ (220 * lv + 1240) from by omega⟩ hl.1 rfl (Nat.le_of_ble_eq_true rfl) d_Mpg_byKey_171 ⟨Nat.le_of_ble_eq_true rfl, Nat.le_of_ble_eq_true rfl⟩ hne hlk hA hAe (fun o t h => Or.inr h) ?_ (fun p26 H locs hp26 hw => ?_)
      · exact fun p1 H1 locs1 hp hw => by subst hp; exact ⟨_, ⟨pf, na, ma, wa, rfl, by omega, by omega⟩, hw.sub [0] rfl rfl⟩
      obtain ⟨rfl, hndp26⟩ := hp26
      have hndp26 : ¬ (0 : Int) = 0 := hndp26
      have hw : pw D A s.heap H locs [wdP cs h r g tf ta pf na ma wa cf ca ef ea xf xa] := hw
      refine lv_iconst (v := (-1)) S.x S.b d_Mpg_byKey_174 (by decide) ?_
      exact th_iret (v := (-1)) S hr rfl hlk hAe hw (⟨pf, na, ma, wa, rfl, (show (pf 11).toInt + 1 ≤ (pf 11).toInt from by omega), (show (pf 11).toInt < (tf 6).toInt from by omega), (show (pf 13).toInt + 1 ≤ (pf 13).toInt from by omega), (show (pf 13).toInt - (pf 13).toInt ≤ (pf 11).toInt - (pf 11).toInt from by omega), (show bp ta (pf 11) + 1 ≤ bp ta (pf 11) from by omega), (show (pf 12).toInt = (pf 12).toInt from by omega), (show (pf 24).toInt = (pf 24).toInt from by omega), (show (pf 25).toInt = (pf 25).toInt from by omega), (show (pf 26).toInt = (pf 26).toInt from by omega), (show FrB (pf 13).toInt na ma na ma from hfb), (show FrW (pf 26).toInt wa wa from hfw), (show VlS ta (tf 6).toInt na ma (-1 : Int32) (pf 13).toInt (pf 13).toInt (3 * (bp ta (pf 11) - bp ta (pf 11))) (200 - (pf 12).toInt) from (absurd (show (0 : Int) = 0 from rfl) (by omega)))⟩) d_Mpg_byKey_175
    · simp only [List.mem_cons, List.not_mem_nil, or_false] at c3
      refine lv_aload_n S.x S.b d_Mpg_byKey_66 rfl (lv_at hl 0 rfl) ?_
      refine th_calli (ps0 := [wdP cs h r g tf ta pf na ma wa cf ca ef ea xf xa]) (pr := []) (pcs := [wdP cs h r g tf ta pf na ma wa cf ca ef ea xf xa]) (As := []) (rest := []) (c_mp_doing l D cs h r g tf ta cf ca ef ea xf xa pf na ma wa  lv (show 0 ≤ (pf 11).toInt from by omega) (show (pf 11).toInt < (tf 6).toInt from by omega) (show (tf 6).toInt ≤ 2049 from by omega) (show 0 ≤ (pf 12).toInt from by omega) (show (pf 12).toInt ≤ 60 from by omega) (show 0 ≤ (pf 13).toInt from by omega) (show (pf 13).toInt ≤ (pf 11).toInt + 10 from by omega) (show 0 ≤ (pf 26).toInt from by omega) (show (pf 26).toInt ≤ (pf 12).toInt from by omega) (show 61 ≤ (pf 12).toInt + (lv : Int) from by omega) (show lv ≤ 61 from by omega) (show (pf 11).toInt + 1 < (tf 6).toInt from by omega) hlf htk hLT) S hT hw (oX_call (P := (fun A U H => (oN A U H) ∧ (oP A g U H))) (pr := []) (oG_and oG_N oG_P) hw hA ⟨hN, hP⟩) (px_recv hT hw 0 0 rfl rfl rfl) m12_137 m12_134 m12_136 ms_11_3 m1_21 q_Mpg_doing ⟨show (8 * lv + 26) + 1 ≤ (8 * lv + 27) from by omega, show 8 + (2 + 11) + (220 * lv + 1200) ≤ (220 * lv + 1240) from by omega⟩ hl.1 rfl (Nat.le_of_ble_eq_true rfl) d_Mpg_byKey_67 ⟨Nat.le_of_ble_eq_true rfl, Nat.le_of_ble_eq_true rfl⟩ hne hlk hA hAe (fun o t h => Or.inr h) ?_ (fun v37 p36 H locs hp36 hw => ?_)
      · exact fun p1 H1 locs1 hp hw => by obtain ⟨pq1, pq2, pq3, pq4, rfl, hq1, hq2⟩ := hp; exact ⟨_, ⟨pq1, pq2, pq3, pq4, rfl, hq1, hq2⟩, hw⟩
      obtain ⟨pf32, na33, ma34, wa35, rfl, e38, e39, e40, e41, e42, e43, e44, e45, e46, e47, e48, e49⟩ := hp36
      have e38 : (pf 11).toInt + 1 ≤ (pf32 11).toInt := e38
      have e39 : (pf32 11).toInt < (tf 6).toInt := e39
      have e40 : (pf 13).toInt + 1 ≤ (pf32 13).toInt := e40
      have e41 : (pf32 13).toInt - (pf 13).toInt ≤ (pf32 11).toInt - (pf 11).toInt := e41
      have e42 : bp ta (pf 11) + 1 ≤ bp ta (pf32 11) := e42
      have e43 : (pf32 12).toInt = (pf 12).toInt := e43
      have e44 : (pf32 24).toInt = (pf 24).toInt := e44
      have e45 : (pf32 25).toInt = (pf 25).toInt := e45
      have e46 : (pf32 26).toInt = (pf 26).toInt := e46
      have e47 : FrB (pf 13).toInt na ma na33 ma34 := e47
      have hfb := hfb.tr e47 (by omega)
      have e48 : FrW (pf 26).toInt wa wa35 := e48
      have hfw := hfw.tr e48 (by omega)
      have e49 : VlS ta (tf 6).toInt na33 ma34 v37 (pf 13).toInt (pf32 13).toInt (3 * (bp ta (pf32 11) - bp ta (pf 11))) (200 - (pf 12).toInt) := e49
      have hv_v37 := e49
      have hn_hv_v37 := hv_v37.num fs_ok
      have hw : pw D A s.heap H locs [wdP cs h r g tf ta pf32 na33 ma34 wa35 cf ca ef ea xf xa] := hw
      have lv37 := Int32.le_toInt v37
      have uv37 := Int32.toInt_lt v37
      exact th_iret (v := v37) S hr rfl hlk hAe hw (⟨pf32, na33, ma34, wa35, rfl, (show (pf 11).toInt + 1 ≤ (pf32 11).toInt from by omega), (show (pf32 11).toInt < (tf 6).toInt from by omega), (show (pf 13).toInt + 1 ≤ (pf32 13).toInt from by omega), (show (pf32 13).toInt - (pf 13).toInt ≤ (pf32 11).toInt - (pf 11).toInt from by omega), (show bp ta (pf 11) + 1 ≤ bp ta (pf32 11) from by omega), (show (pf32 12).toInt = (pf 12).toInt from by omega), (show (pf32 24).toInt = (pf 24).toInt from by omega), (show (pf32 25).toInt = (pf 25).toInt from by omega), (show (pf32 26).toInt = (pf 26).toInt from by omega), (show FrB (pf 13).toInt na ma na33 ma34 from hfb), (show FrW (pf 26).toInt wa wa35 from hfw), (show VlS ta (tf 6).toInt na33 ma34 v37 (pf 13).toInt (pf32 13).toInt (3 * (bp ta (pf32 11) - bp ta (pf 11))) (200 - (pf 12).toInt) from (VlV.le hv_v37 (by omega) (by omega) (by omega) (by omega)))⟩) d_Mpg_byKey_70
    · simp only [List.mem_cons, List.not_mem_nil, or_false] at c3
      refine lv_aload_n S.x S.b d_Mpg_byKey_71 rfl (lv_at hl 0 rfl) ?_
      refine th_calli (ps0 := [wdP cs h r g tf ta pf na ma wa cf ca ef ea xf xa]) (pr := []) (pcs := [wdP cs h r g tf ta pf na ma wa cf ca ef ea xf xa]) (As := []) (rest := []) (c_mp_forLoop l D cs h r g tf ta cf ca ef ea xf xa pf na ma wa  lv (show 0 ≤ (pf 11).toInt from by omega) (show (pf 11).toInt < (tf 6).toInt from by omega) (show (tf 6).toInt ≤ 2049 from by omega) (show 0 ≤ (pf 12).toInt from by omega) (show (pf 12).toInt ≤ 60 from by omega) (show 0 ≤ (pf 13).toInt from by omega) (show (pf 13).toInt ≤ (pf 11).toInt + 10 from by omega) (show 0 ≤ (pf 26).toInt from by omega) (show (pf 26).toInt ≤ (pf 12).toInt from by omega) (show 61 ≤ (pf 12).toInt + (lv : Int) from by omega) (show lv ≤ 61 from by omega) (show (pf 11).toInt + 1 < (tf 6).toInt from by omega) hlf htk hLT) S hT hw (oX_call (P := (fun A U H => (oN A U H) ∧ (oP A g U H))) (pr := []) (oG_and oG_N oG_P) hw hA ⟨hN, hP⟩) (px_recv hT hw 0 0 rfl rfl rfl) m12_141 m12_138 m12_140 ms_11_4 m1_21 q_Mpg_forLoop ⟨show (8 * lv + 26) + 1 ≤ (8 * lv + 27) from by omega, show 8 + (3 + 11) + (220 * lv + 1200) ≤ (220 * lv + 1240) from by omega⟩ hl.1 rfl (Nat.le_of_ble_eq_true rfl) d_Mpg_byKey_72 ⟨Nat.le_of_ble_eq_true rfl, Nat.le_of_ble_eq_true rfl⟩ hne hlk hA hAe (fun o t h => Or.inr h) ?_ (fun v59 p58 H locs hp58 hw => ?_)
      · exact fun p1 H1 locs1 hp hw => by obtain ⟨pq1, pq2, pq3, pq4, rfl, hq1, hq2⟩ := hp; exact ⟨_, ⟨pq1, pq2, pq3, pq4, rfl, hq1, hq2⟩, hw⟩
      obtain ⟨pf54, na55, ma56, wa57, rfl, e60, e61, e62, e63, e64, e65, e66, e67, e68, e69, e70, e71⟩ := hp58
      have e60 : (pf 11).toInt + 1 ≤ (pf54 11).toInt := e60
      have e61 : (pf54 11).toInt < (tf 6).toInt := e61
      have e62 : (pf 13).toInt + 1 ≤ (pf54 13).toInt := e62
      have e63 : (pf54 13).toInt - (pf 13).toInt ≤ (pf54 11).toInt - (pf 11).toInt := e63
      have e64 : bp ta (pf 11) + 1 ≤ bp ta (pf54 11) := e64
      have e65 : (pf54 12).toInt = (pf 12).toInt := e65
      have e66 : (pf54 24).toInt = (pf 24).toInt := e66
      have e67 : (pf54 25).toInt = (pf 25).toInt := e67
      have e68 : (pf54 26).toInt = (pf 26).toInt := e68
      have e69 : FrB (pf 13).toInt na ma na55 ma56 := e69
      have hfb := hfb.tr e69 (by omega)
      have e70 : FrW (pf 26).toInt wa wa57 := e70
      have hfw := hfw.tr e70 (by omega)
      have e71 : VlS ta (tf 6).toInt na55 ma56 v59 (pf 13).toInt (pf54 13).toInt (3 * (bp ta (pf54 11) - bp ta (pf 11))) (200 - (pf 12).toInt) := e71
      have hv_v59 := e71
      have hn_hv_v59 := hv_v59.num fs_ok
      have hw : pw D A s.heap H locs [wdP cs h r g tf ta pf54 na55 ma56 wa57 cf ca ef ea xf xa] := hw
      have lv59 := Int32.le_toInt v59
      have uv59 := Int32.toInt_lt v59
      exact th_iret (v := v59) S hr rfl hlk hAe hw (⟨pf54, na55, ma56, wa57, rfl, (show (pf 11).toInt + 1 ≤ (pf54 11).toInt from by omega), (show (pf54 11).toInt < (tf 6).toInt from by omega), (show (pf 13).toInt + 1 ≤ (pf54 13).toInt from by omega), (show (pf54 13).toInt - (pf 13).toInt ≤ (pf54 11).toInt - (pf 11).toInt from by omega), (show bp ta (pf 11) + 1 ≤ bp ta (pf54 11) from by omega), (show (pf54 12).toInt = (pf 12).toInt from by omega), (show (pf54 24).toInt = (pf 24).toInt from by omega), (show (pf54 25).toInt = (pf 25).toInt from by omega), (show (pf54 26).toInt = (pf 26).toInt from by omega), (show FrB (pf 13).toInt na ma na55 ma56 from hfb), (show FrW (pf 26).toInt wa wa57 from hfw), (show VlS ta (tf 6).toInt na55 ma56 v59 (pf 13).toInt (pf54 13).toInt (3 * (bp ta (pf54 11) - bp ta (pf 11))) (200 - (pf 12).toInt) from (VlV.le hv_v59 (by omega) (by omega) (by omega) (by omega)))⟩) d_Mpg_byKey_75
    · simp only [List.mem_cons, List.not_mem_nil, or_false] at c3
      refine lv_aload_n S.x S.b d_Mpg_byKey_76 rfl (lv_at hl 0 rfl) ?_
      refine th_calli (ps0 := [wdP cs h r g tf ta pf na ma wa cf ca ef ea xf xa]) (pr := []) (pcs := [wdP cs h r g tf ta pf na ma wa cf ca ef ea xf xa]) (As := []) (rest := []) (c_mp_switching l D cs h r g tf ta cf ca ef ea xf xa pf na ma wa  lv (show 0 ≤ (pf 11).toInt from by omega) (show (pf 11).toInt < (tf 6).toInt from by omega) (show (tf 6).toInt ≤ 2049 from by omega) (show 0 ≤ (pf 12).toInt from by omega) (show (pf 12).toInt ≤ 60 from by omega) (show 0 ≤ (pf 13).toInt from by omega) (show (pf 13).toInt ≤ (pf 11).toInt + 10 from by omega) (show 0 ≤ (pf 26).toInt from by omega) (show (pf 26).toInt ≤ (pf 12).toInt from by omega) (show 61 ≤ (pf 12).toInt + (lv : Int) from by omega) (show lv ≤ 61 from by omega) (show (pf 11).toInt + 1 < (tf 6).toInt from by omega) hlf htk hLT) S hT hw (oX_call (P := (fun A U H => (oN A U H) ∧ (oP A g U H))) (pr := []) (oG_and oG_N oG_P) hw hA ⟨hN, hP⟩) (px_recv hT hw 0 0 rfl rfl rfl) m12_145 m12_142 m12_144 ms_11_5 m1_21 q_Mpg_switching ⟨show (8 * lv + 26) + 1 ≤ (8 * lv + 27) from by omega, show 8 + (4 + 11) + (220 * lv + 1200) ≤ (220 * lv + 1240) from by omega⟩ hl.1 rfl (Nat.le_of_ble_eq_true rfl) d_Mpg_byKey_77 ⟨Nat.le_of_ble_eq_true rfl, Nat.le_of_ble_eq_true rfl⟩ hne hlk hA hAe (fun o t h => Or.inr h) ?_ (fun v81 p80 H locs hp80 hw => ?_)
      · exact fun p1 H1 locs1 hp hw => by obtain ⟨pq1, pq2, pq3, pq4, rfl, hq1, hq2⟩ := hp; exact ⟨_, ⟨pq1, pq2, pq3, pq4, rfl, hq1, hq2⟩, hw⟩
      obtain ⟨pf76, na77, ma78, wa79, rfl, e82, e83, e84, e85, e86, e87, e88, e89, e90, e91, e92, e93⟩ := hp80
      have e82 : (pf 11).toInt + 1 ≤ (pf76 11).toInt := e82
      have e83 : (pf76 11).toInt < (tf 6).toInt := e83
      have e84 : (pf 13).toInt + 1 ≤ (pf76 13).toInt := e84
      have e85 : (pf76 13).toInt - (pf 13).toInt ≤ (pf76 11).toInt - (pf 11).toInt := e85
      have e86 : bp ta (pf 11) + 1 ≤ bp ta (pf76 11) := e86
      have e87 : (pf76 12).toInt = (pf 12).toInt := e87
      have e88 : (pf76 24).toInt = (pf 24).toInt := e88
      have e89 : (pf76 25).toInt = (pf 25).toInt := e89
      have e90 : (pf76 26).toInt = (pf 26).toInt := e90
      have e91 : FrB (pf 13).toInt na ma na77 ma78 := e91
      have hfb := hfb.tr e91 (by omega)
      have e92 : FrW (pf 26).toInt wa wa79 := e92
      have hfw := hfw.tr e92 (by omega)
      have e93 : VlS ta (tf 6).toInt na77 ma78 v81 (pf 13).toInt (pf76 13).toInt (3 * (bp ta (pf76 11) - bp ta (pf 11))) (200 - (pf 12).toInt) := e93
      have hv_v81 := e93
      have hn_hv_v81 := hv_v81.num fs_ok
      have hw : pw D A s.heap H locs [wdP cs h r g tf ta pf76 na77 ma78 wa79 cf ca ef ea xf xa] := hw
      have lv81 := Int32.le_toInt v81
      have uv81 := Int32.toInt_lt v81
      exact th_iret (v := v81) S hr rfl hlk hAe hw (⟨pf76, na77, ma78, wa79, rfl, (show (pf 11).toInt + 1 ≤ (pf76 11).toInt from by omega), (show (pf76 11).toInt < (tf 6).toInt from by omega), (show (pf 13).toInt + 1 ≤ (pf76 13).toInt from by omega), (show (pf76 13).toInt - (pf 13).toInt ≤ (pf76 11).toInt - (pf 11).toInt from by omega), (show bp ta (pf 11) + 1 ≤ bp ta (pf76 11) from by omega), (show (pf76 12).toInt = (pf 12).toInt from by omega), (show (pf76 24).toInt = (pf 24).toInt from by omega), (show (pf76 25).toInt = (pf 25).toInt from by omega), (show (pf76 26).toInt = (pf 26).toInt from by omega), (show FrB (pf 13).toInt na ma na77 ma78 from hfb), (show FrW (pf 26).toInt wa wa79 from hfw), (show VlS ta (tf 6).toInt na77 ma78 v81 (pf 13).toInt (pf76 13).toInt (3 * (bp ta (pf76 11) - bp ta (pf 11))) (200 - (pf 12).toInt) from (VlV.le hv_v81 (by omega) (by omega) (by omega) (by omega)))⟩) d_Mpg_byKey_80
    · simp only [List.mem_cons, List.not_mem_nil, or_false] at c3
      refine lv_aload_n S.x S.b d_Mpg_byKey_81 rfl (lv_at hl 0 rfl) ?_
      refine lv_dup S.x S.b d_Mpg_byKey_82 rfl ?_
      refine px_get S k_Mpg hT hw 0 0 11 (v := .int (pf 11)) rfl rfl rfl (by decide) m9_235 d_Mpg_byKey_83 ?_
      refine lv_iconst (v := 1) S.x S.b d_Mpg_byKey_86 (by decide) ?_
      refine lv_iadd S.x S.b d_Mpg_byKey_87 ?_
      have lr94 := Int32.le_toInt (pf 11)
      have ur94 := Int32.toInt_lt (pf 11)
      refine lv_topi (fun z95 ez95 => ?_)
      have tz95 : z95.toInt = ((pf 11).toInt + (1 : Int) + 2147483648) % 4294967296 - 2147483648 := by rw [ez95]; exact i_add (pf 11) 1
      have lz95 := Int32.le_toInt z95
      have uz95 := Int32.toInt_lt z95
      try replace tz95 : z95.toInt = (pf 11).toInt + (1 : Int) := by omega
      have hnx87 := tk_n htk (x := (pf 11)) (y := z95) (by omega) (by omega) (by omega)
      refine px_put S k_Mpg hT hw 0 0 11 rfl rfl (by decide) m9_235 rfl rfl rfl (Nat.le_of_ble_eq_true rfl) d_Mpg_byKey_88 (w' := wdP cs h r g tf ta (upd pf 11 z95) na ma wa cf ca ef ea xf xa) (ps' := [wdP cs h r g tf ta (upd pf 11 z95) na ma wa cf ca ef ea xf xa]) rfl rfl (fun H locs hw => ?_)
      refine lv_aload_n S.x S.b d_Mpg_byKey_91 rfl (lv_at hl 0 rfl) ?_
      obtain ⟨sk96, hRsk96, st97, sb98, hSsk96⟩ := oP_lit hP (k := 101) (tx := ";") (n := 1) (List.mem_of_getElem? (i := 42) rfl)
      refine va_ldcS S.x S.b S.own hRsk96 d_Mpg_byKey_92 ?_
      refine th_callv (ps0 := [wdP cs h r g tf ta pf na ma wa cf ca ef ea xf xa]) (pr := []) (pcs := [wdP cs h r g tf ta (upd pf 11 z95) na ma wa cf ca ef ea xf xa]) (As := [.ref sk96]) (rest := []) (c_mp_take l D cs sk96 1 h r g tf ta na ma wa cf ca ef ea xf xa (upd pf 11 z95)   (show 0 ≤ z95.toInt from by omega) (show z95.toInt < (tf 6).toInt from by omega) (show (tf 6).toInt ≤ 2049 from by omega) (show 1 ≤ 100 from by omega) hlf htk) S hT hw (oX_call (P := (fun A U H => (oN A U H) ∧ (oP A g U H) ∧ (StS A sk96 1 U H))) (pr := []) (oG_and oG_N (oG_and oG_P oG_Q)) hw hA ⟨hN, hP, ⟨_, _, hSsk96⟩⟩) (px_recv hT hw 0 0 rfl rfl rfl) m12_57 m12_54 m12_56 ms_9_15 m1_21 q_Mpg_take ⟨show 7 + 1 ≤ (8 * lv + 27) from by omega, show 8 + (2 + 11) + 230 ≤ (220 * lv + 1240) from by omega⟩ hl.1 rfl (Nat.le_of_ble_eq_true rfl) d_Mpg_byKey_94 ⟨Nat.le_of_ble_eq_true rfl, Nat.le_of_ble_eq_true rfl⟩ hne hlk hA hAe (fun o t h => Or.inr h) ?_ (fun p101 H locs hp101 hw => ?_)
      · exact fun p1 H1 locs1 hp hw => by obtain ⟨pq1, pq2, pq3, pq4, rfl, hq1, hq2⟩ := hp; exact ⟨_, ⟨pq1, pq2, pq3, pq4, rfl, hq1, hq2⟩, hw⟩
      obtain ⟨pf100, rfl, e103, e104, e105, e106, e107, e108, e109, e110⟩ := hp101
      have e103 : (pf100 11).toInt = z95.toInt + 1 := e103
      have e104 : (pf100 11).toInt < (tf 6).toInt := e104
      have e105 : bp ta z95 + 1 ≤ bp ta (pf100 11) := e105
      have e106 : (pf100 12).toInt = (pf 12).toInt := e106
      have e107 : (pf100 13).toInt = (pf 13).toInt := e107
      have e108 : (pf100 24).toInt = (pf 24).toInt := e108
      have e109 : (pf100 25).toInt = (pf 25).toInt := e109
      have e110 : (pf100 26).toInt = (pf 26).toInt := e110
      have hw : pw D A s.heap H locs [wdP cs h r g tf ta pf100 na ma wa cf ca ef ea xf xa] := hw
      refine lv_aload_n S.x S.b d_Mpg_byKey_97 rfl (lv_at hl 0 rfl) ?_
      refine lv_iload_n S.x S.b d_Mpg_byKey_98 rfl (lv_at hl 1 rfl) ?_
      refine lv_bipush (v := 12) S.x S.b d_Mpg_byKey_99 (by decide) ?_
      refine lv_icmp_ne (tgt := 109) S.x S.b d_Mpg_byKey_101 (by decide) (fun c111 => ?_) (fun c111 => ?_)
      · have nc111 : ¬ p0.toInt = (12 : Int) := mt (i_eq (x := p0) (y := 12)).mpr c111
        refine lv_bipush (v := 32) S.x S.b d_Mpg_byKey_109 (by decide) ?_
        refine lv_aload_n S.x S.b d_Mpg_byKey_111 rfl (lv_at hl 0 rfl) ?_
        refine px_get S k_Mpg hT hw 0 0 11 (v := .int (pf100 11)) rfl rfl rfl (by decide) m9_235 d_Mpg_byKey_112 ?_
        refine lv_iconst (v := 2) S.x S.b d_Mpg_byKey_115 (by decide) ?_
        refine lv_isub S.x S.b d_Mpg_byKey_116 ?_
        have lr112 := Int32.le_toInt (pf100 11)
        have ur112 := Int32.toInt_lt (pf100 11)
        refine lv_topi (fun z113 ez113 => ?_)
        have tz113 : z113.toInt = ((pf100 11).toInt - (2 : Int) + 2147483648) % 4294967296 - 2147483648 := by rw [ez113]; exact i_sub (pf100 11) 2
        have lz113 := Int32.le_toInt z113
        have uz113 := Int32.toInt_lt z113
        try replace tz113 : z113.toInt = (pf100 11).toInt - (2 : Int) := by omega
        refine px_calli (pr := []) (px_runV (As := [.int 32, .int z113]) (rest := []) S (c_mp_make l D cs h r g tf ta wa cf ca ef ea xf xa pf100 na ma 32 z113  (show 0 ≤ (pf100 13).toInt from by omega) (show (pf100 13).toInt < 2100 from by omega) _) hT (pr := []) (pcs := [wdP cs h r g tf ta pf100 na ma wa cf ca ef ea xf xa]) hw px_X.tt (px_recv hT hw 0 0 rfl rfl rfl) m11_209 m11_206 m11_208 ms_8_12 m1_21 q_Mpg_make ⟨show 0 + 1 ≤ (8 * lv + 27) from by omega, show 8 + (3 + 11) + 0 ≤ (220 * lv + 1240) from by omega⟩ hl.1 rfl (Nat.le_of_ble_eq_true rfl) d_Mpg_byKey_117 ⟨Nat.le_of_ble_eq_true rfl, Nat.le_of_ble_eq_true rfl⟩) hw hA (fun v121 p120 H locs hp120 hw => ?_)
        obtain ⟨pf117, na118, ma119, rfl, e122, e123, e124, e125, e126, e127, e128, e129⟩ := hp120
        have e122 : v121.toInt = (pf100 13).toInt := e122
        have e123 : (pf117 13).toInt = (pf100 13).toInt + 1 := e123
        have e124 : (pf117 11).toInt = (pf100 11).toInt := e124
        have e125 : (pf117 12).toInt = (pf100 12).toInt := e125
        have e126 : (pf117 24).toInt = (pf100 24).toInt := e126
        have e127 : (pf117 25).toInt = (pf100 25).toInt := e127
        have e128 : (pf117 26).toInt = (pf100 26).toInt := e128
        have e129 : MkN na ma na118 ma119 v121 (32 : Int32) z113 := e129
        obtain ⟨qb1301, qb1302, qb1303, qb1304⟩ := tk_eq (ta := ta) (x := (pf117 11)) (y := (pf100 11)) (by omega)
        have hmk_v121 := e129
        have hfm_v121 := MkN.frb (b := v121.toInt) hmk_v121 (by omega) (by omega)
        have hfb := hfb.tr hfm_v121 (by omega)
        have hf_14_v121 := hmk_v121.2.1 (by decide) (by decide)
        have hf_15_v121 := hmk_v121.2.2.1
        have hf_17_v121 := hmk_v121.2.2.2.2.1
        have hf_21_v121 := hmk_v121.2.2.2.2.2.2.2.2.1
        clear hmk_v121 hfm_v121
        have hw : pw D A s.heap H locs [wdP cs h r g tf ta pf117 na118 ma119 wa cf ca ef ea xf xa] := hw
        have lv121 := Int32.le_toInt v121
        have uv121 := Int32.toInt_lt v121
        exact th_iret (v := v121) S hr rfl hlk hAe hw (⟨pf117, na118, ma119, wa, rfl, (show (pf 11).toInt + 1 ≤ (pf117 11).toInt from by omega), (show (pf117 11).toInt < (tf 6).toInt from by omega), (show (pf 13).toInt + 1 ≤ (pf117 13).toInt from by omega), (show (pf117 13).toInt - (pf 13).toInt ≤ (pf117 11).toInt - (pf 11).toInt from by omega), (show bp ta (pf 11) + 1 ≤ bp ta (pf117 11) from by omega), (show (pf117 12).toInt = (pf 12).toInt from by omega), (show (pf117 24).toInt = (pf 24).toInt from by omega), (show (pf117 25).toInt = (pf 25).toInt from by omega), (show (pf117 26).toInt = (pf 26).toInt from by omega), (show FrB (pf 13).toInt na ma na118 ma119 from hfb), (show FrW (pf 26).toInt wa wa from hfw), (show VlS ta (tf 6).toInt na118 ma119 v121 (pf 13).toInt (pf117 13).toInt (3 * (bp ta (pf117 11) - bp ta (pf 11))) (200 - (pf 12).toInt) from (VlV.le (st_jump (hi := (pf117 13).toInt) (D := 130) ⟨by omega, hf_14_v121, hf_15_v121, ⟨by omega, by omega⟩, hf_21_v121⟩ (by decide) (by omega) (by omega)) (by omega) (by omega) (by omega) (by omega)))⟩) d_Mpg_byKey_120
      · have nc111 : p0.toInt = (12 : Int) := (i_eq (x := p0) (y := 12)).mp c111
        refine lv_bipush (v := 31) S.x S.b d_Mpg_byKey_104 (by decide) ?_
        refine lv_goto (tgt := 111) S.x S.b d_Mpg_byKey_106 (by decide) ?_
        refine lv_aload_n S.x S.b d_Mpg_byKey_111 rfl (lv_at hl 0 rfl) ?_
        refine px_get S k_Mpg hT hw 0 0 11 (v := .int (pf100 11)) rfl rfl rfl (by decide) m9_235 d_Mpg_byKey_112 ?_
        refine lv_iconst (v := 2) S.x S.b d_Mpg_byKey_115 (by decide) ?_
        refine lv_isub S.x S.b d_Mpg_byKey_116 ?_
        have lr131 := Int32.le_toInt (pf100 11)
        have ur131 := Int32.toInt_lt (pf100 11)
        refine lv_topi (fun z132 ez132 => ?_)
        have tz132 : z132.toInt = ((pf100 11).toInt - (2 : Int) + 2147483648) % 4294967296 - 2147483648 := by rw [ez132]; exact i_sub (pf100 11) 2
        have lz132 := Int32.le_toInt z132
        have uz132 := Int32.toInt_lt z132
        try replace tz132 : z132.toInt = (pf100 11).toInt - (2 : Int) := by omega
        refine px_calli (pr := []) (px_runV (As := [.int 31, .int z132]) (rest := []) S (c_mp_make l D cs h r g tf ta wa cf ca ef ea xf xa pf100 na ma 31 z132  (show 0 ≤ (pf100 13).toInt from by omega) (show (pf100 13).toInt < 2100 from by omega) _) hT (pr := []) (pcs := [wdP cs h r g tf ta pf100 na ma wa cf ca ef ea xf xa]) hw px_X.tt (px_recv hT hw 0 0 rfl rfl rfl) m11_209 m11_206 m11_208 ms_8_12 m1_21 q_Mpg_make ⟨show 0 + 1 ≤ (8 * lv + 27) from by omega, show 8 + (3 + 11) + 0 ≤ (220 * lv + 1240) from by omega⟩ hl.1 rfl (Nat.le_of_ble_eq_true rfl) d_Mpg_byKey_117 ⟨Nat.le_of_ble_eq_true rfl, Nat.le_of_ble_eq_true rfl⟩) hw hA (fun v140 p139 H locs hp139 hw => ?_)
        obtain ⟨pf136, na137, ma138, rfl, e141, e142, e143, e144, e145, e146, e147, e148⟩ := hp139
        have e141 : v140.toInt = (pf100 13).toInt := e141
        have e142 : (pf136 13).toInt = (pf100 13).toInt + 1 := e142
        have e143 : (pf136 11).toInt = (pf100 11).toInt := e143
        have e144 : (pf136 12).toInt = (pf100 12).toInt := e144
        have e145 : (pf136 24).toInt = (pf100 24).toInt := e145
        have e146 : (pf136 25).toInt = (pf100 25).toInt := e146
        have e147 : (pf136 26).toInt = (pf100 26).toInt := e147
        have e148 : MkN na ma na137 ma138 v140 (31 : Int32) z132 := e148
        obtain ⟨qb1491, qb1492, qb1493, qb1494⟩ := tk_eq (ta := ta) (x := (pf136 11)) (y := (pf100 11)) (by omega)
        have hmk_v140 := e148
        have hfm_v140 := MkN.frb (b := v140.toInt) hmk_v140 (by omega) (by omega)
        have hfb := hfb.tr hfm_v140 (by omega)
        have hf_14_v140 := hmk_v140.2.1 (by decide) (by decide)
        have hf_15_v140 := hmk_v140.2.2.1
        have hf_17_v140 := hmk_v140.2.2.2.2.1
        have hf_21_v140 := hmk_v140.2.2.2.2.2.2.2.2.1
        clear hmk_v140 hfm_v140
        have hw : pw D A s.heap H locs [wdP cs h r g tf ta pf136 na137 ma138 wa cf ca ef ea xf xa] := hw
        have lv140 := Int32.le_toInt v140
        have uv140 := Int32.toInt_lt v140
        exact th_iret (v := v140) S hr rfl hlk hAe hw (⟨pf136, na137, ma138, wa, rfl, (show (pf 11).toInt + 1 ≤ (pf136 11).toInt from by omega), (show (pf136 11).toInt < (tf 6).toInt from by omega), (show (pf 13).toInt + 1 ≤ (pf136 13).toInt from by omega), (show (pf136 13).toInt - (pf 13).toInt ≤ (pf136 11).toInt - (pf 11).toInt from by omega), (show bp ta (pf 11) + 1 ≤ bp ta (pf136 11) from by omega), (show (pf136 12).toInt = (pf 12).toInt from by omega), (show (pf136 24).toInt = (pf 24).toInt from by omega), (show (pf136 25).toInt = (pf 25).toInt from by omega), (show (pf136 26).toInt = (pf 26).toInt from by omega), (show FrB (pf 13).toInt na ma na137 ma138 from hfb), (show FrW (pf 26).toInt wa wa from hfw), (show VlS ta (tf 6).toInt na137 ma138 v140 (pf 13).toInt (pf136 13).toInt (3 * (bp ta (pf136 11) - bp ta (pf 11))) (200 - (pf 12).toInt) from (VlV.le (st_jump (hi := (pf136 13).toInt) (D := 130) ⟨by omega, hf_14_v140, hf_15_v140, ⟨by omega, by omega⟩, hf_21_v140⟩ (by decide) (by omega) (by omega)) (by omega) (by omega) (by omega) (by omega)))⟩) d_Mpg_byKey_120
    · simp only [List.mem_cons, List.not_mem_nil, or_false] at c3
      refine lv_aload_n S.x S.b d_Mpg_byKey_121 rfl (lv_at hl 0 rfl) ?_
      refine lv_bipush (v := 33) S.x S.b d_Mpg_byKey_122 (by decide) ?_
      refine lv_aload_n S.x S.b d_Mpg_byKey_124 rfl (lv_at hl 0 rfl) ?_
      refine px_get S k_Mpg hT hw 0 0 11 (v := .int (pf 11)) rfl rfl rfl (by decide) m9_235 d_Mpg_byKey_125 ?_
      refine px_calli (pr := []) (px_runV (As := [.int 33, .int (pf 11)]) (rest := []) S (c_mp_make l D cs h r g tf ta wa cf ca ef ea xf xa pf na ma 33 (pf 11)  (show 0 ≤ (pf 13).toInt from by omega) (show (pf 13).toInt < 2100 from by omega) _) hT (pr := []) (pcs := [wdP cs h r g tf ta pf na ma wa cf ca ef ea xf xa]) hw px_X.tt (px_recv hT hw 0 0 rfl rfl rfl) m11_209 m11_206 m11_208 ms_8_12 m1_21 q_Mpg_make ⟨show 0 + 1 ≤ (8 * lv + 27) from by omega, show 8 + (3 + 11) + 0 ≤ (220 * lv + 1240) from by omega⟩ hl.1 rfl (Nat.le_of_ble_eq_true rfl) d_Mpg_byKey_128 ⟨Nat.le_of_ble_eq_true rfl, Nat.le_of_ble_eq_true rfl⟩) hw hA (fun v157 p156 H locs hp156 hw => ?_)
      obtain ⟨pf153, na154, ma155, rfl, e158, e159, e160, e161, e162, e163, e164, e165⟩ := hp156
      have e158 : v157.toInt = (pf 13).toInt := e158
      have e159 : (pf153 13).toInt = (pf 13).toInt + 1 := e159
      have e160 : (pf153 11).toInt = (pf 11).toInt := e160
      have e161 : (pf153 12).toInt = (pf 12).toInt := e161
      have e162 : (pf153 24).toInt = (pf 24).toInt := e162
      have e163 : (pf153 25).toInt = (pf 25).toInt := e163
      have e164 : (pf153 26).toInt = (pf 26).toInt := e164
      have e165 : MkN na ma na154 ma155 v157 (33 : Int32) (pf 11) := e165
      obtain ⟨qb1661, qb1662, qb1663, qb1664⟩ := tk_eq (ta := ta) (x := (pf153 11)) (y := (pf 11)) (by omega)
      have hmk_v157 := e165
      have hfm_v157 := MkN.frb (b := v157.toInt) hmk_v157 (by omega) (by omega)
      have hfb := hfb.tr hfm_v157 (by omega)
      have hf_14_v157 := hmk_v157.2.1 (by decide) (by decide)
      have hf_15_v157 := hmk_v157.2.2.1
      have hf_17_v157 := hmk_v157.2.2.2.2.1
      have hf_21_v157 := hmk_v157.2.2.2.2.2.2.2.2.1
      clear hmk_v157 hfm_v157
      have hw : pw D A s.heap H locs [wdP cs h r g tf ta pf153 na154 ma155 wa cf ca ef ea xf xa] := hw
      have lv157 := Int32.le_toInt v157
      have uv157 := Int32.toInt_lt v157
      refine lv_istore_n (lv' := [(2, .int v157), (0, .ref h), (1, .int p0)]) S.x S.b d_Mpg_byKey_131 rfl hl (by decide) rfl (fun ls hl => ?_)
      refine lv_aload_n S.x S.b d_Mpg_byKey_132 rfl (lv_at hl 1 rfl) ?_
      refine lv_dup S.x S.b d_Mpg_byKey_133 rfl ?_
      refine px_get S k_Mpg hT hw 0 0 11 (v := .int (pf153 11)) rfl rfl rfl (by decide) m9_235 d_Mpg_byKey_134 ?_
      refine lv_iconst (v := 1) S.x S.b d_Mpg_byKey_137 (by decide) ?_
      refine lv_iadd S.x S.b d_Mpg_byKey_138 ?_
      have lr167 := Int32.le_toInt (pf153 11)
      have ur167 := Int32.toInt_lt (pf153 11)
      refine lv_topi (fun z168 ez168 => ?_)
      have tz168 : z168.toInt = ((pf153 11).toInt + (1 : Int) + 2147483648) % 4294967296 - 2147483648 := by rw [ez168]; exact i_add (pf153 11) 1
      have lz168 := Int32.le_toInt z168
      have uz168 := Int32.toInt_lt z168
      try replace tz168 : z168.toInt = (pf153 11).toInt + (1 : Int) := by omega
      have hnx138 := tk_n htk (x := (pf153 11)) (y := z168) (by omega) (by omega) (by omega)
      refine px_put S k_Mpg hT hw 0 0 11 rfl rfl (by decide) m9_235 rfl rfl rfl (Nat.le_of_ble_eq_true rfl) d_Mpg_byKey_139 (w' := wdP cs h r g tf ta (upd pf153 11 z168) na154 ma155 wa cf ca ef ea xf xa) (ps' := [wdP cs h r g tf ta (upd pf153 11 z168) na154 ma155 wa cf ca ef ea xf xa]) rfl rfl (fun H locs hw => ?_)
      refine lv_aload_n S.x S.b d_Mpg_byKey_142 rfl (lv_at hl 1 rfl) ?_
      obtain ⟨sk169, hRsk169, st170, sb171, hSsk169⟩ := oP_lit hP (k := 101) (tx := ";") (n := 1) (List.mem_of_getElem? (i := 42) rfl)
      refine va_ldcS S.x S.b S.own hRsk169 d_Mpg_byKey_143 ?_
      refine px_calli (pr := []) (px_runV (As := [.ref sk169]) (rest := []) S (c_mp_is l D cs sk169 1 h r g tf ta (upd pf153 11 z168) na154 ma155 wa cf ca ef ea xf xa   (show 0 ≤ z168.toInt from by omega) (show z168.toInt < (tf 6).toInt from by omega) (show (tf 6).toInt ≤ 2049 from by omega) (show 1 ≤ 100 from by omega) htk _) hT (pr := []) (pcs := [wdP cs h r g tf ta (upd pf153 11 z168) na154 ma155 wa cf ca ef ea xf xa]) hw (oX_call (P := (fun A U H => (oP A g U H) ∧ (StS A sk169 1 U H))) (pr := []) (oG_and oG_P oG_Q) hw hA ⟨hP, ⟨_, _, hSsk169⟩⟩) (px_recv hT hw 0 0 rfl rfl rfl) m11_217 m11_214 m11_216 ms_8_14 m1_21 q_Mpg_is ⟨show 3 + 1 ≤ (8 * lv + 27) from by omega, show 8 + (2 + 11) + 120 ≤ (220 * lv + 1240) from by omega⟩ hl.1 rfl (Nat.le_of_ble_eq_true rfl) d_Mpg_byKey_145 ⟨Nat.le_of_ble_eq_true rfl, Nat.le_of_ble_eq_true rfl⟩) hw hA (fun v173 p172 H locs hp172 hw => ?_)
      obtain ⟨rfl, e174, e175⟩ := hp172
      have e174 := z_rng e174
      have e175 : v173.toInt = 1 → z168.toInt + 1 < (tf 6).toInt ∧ so ta z168 = 5 := e175
      have hw : pw D A s.heap H locs [wdP cs h r g tf ta (upd pf153 11 z168) na154 ma155 wa cf ca ef ea xf xa] := hw
      have lv173 := Int32.le_toInt v173
      have uv173 := Int32.toInt_lt v173
      refine lv_if_ne (tgt := 161) S.x S.b d_Mpg_byKey_148 (by decide) (fun c176 => ?_) (fun c176 => ?_)
      · have nc176 : ¬ v173.toInt = (0 : Int) := mt (i_eq (x := v173) (y := 0)).mpr c176
        refine lv_aload_n S.x S.b d_Mpg_byKey_161 rfl (lv_at hl 1 rfl) ?_
        obtain ⟨sk177, hRsk177, st178, sb179, hSsk177⟩ := oP_lit hP (k := 101) (tx := ";") (n := 1) (List.mem_of_getElem? (i := 42) rfl)
        refine va_ldcS S.x S.b S.own hRsk177 d_Mpg_byKey_162 ?_
        refine th_callv (ps0 := [wdP cs h r g tf ta pf na ma wa cf ca ef ea xf xa]) (pr := []) (pcs := [wdP cs h r g tf ta (upd pf153 11 z168) na154 ma155 wa cf ca ef ea xf xa]) (As := [.ref sk177]) (rest := []) (c_mp_take l D cs sk177 1 h r g tf ta na154 ma155 wa cf ca ef ea xf xa (upd pf153 11 z168)   (show 0 ≤ z168.toInt from by omega) (show z168.toInt < (tf 6).toInt from by omega) (show (tf 6).toInt ≤ 2049 from by omega) (show 1 ≤ 100 from by omega) hlf htk) S hT hw (oX_call (P := (fun A U H => (oN A U H) ∧ (oP A g U H) ∧ (StS A sk177 1 U H))) (pr := []) (oG_and oG_N (oG_and oG_P oG_Q)) hw hA ⟨hN, hP, ⟨_, _, hSsk177⟩⟩) (px_recv hT hw 0 0 rfl rfl rfl) m12_57 m12_54 m12_56 ms_9_15 m1_21 q_Mpg_take ⟨show 7 + 1 ≤ (8 * lv + 27) from by omega, show 8 + (2 + 11) + 230 ≤ (220 * lv + 1240) from by omega⟩ hl.1 rfl (Nat.le_of_ble_eq_true rfl) d_Mpg_byKey_164 ⟨Nat.le_of_ble_eq_true rfl, Nat.le_of_ble_eq_true rfl⟩ hne hlk hA hAe (fun o t h => Or.inr h) ?_ (fun p182 H locs hp182 hw => ?_)
        · exact fun p1 H1 locs1 hp hw => by obtain ⟨pq1, pq2, pq3, pq4, rfl, hq1, hq2⟩ := hp; exact ⟨_, ⟨pq1, pq2, pq3, pq4, rfl, hq1, hq2⟩, hw⟩
        obtain ⟨pf181, rfl, e184, e185, e186, e187, e188, e189, e190, e191⟩ := hp182
        have e184 : (pf181 11).toInt = z168.toInt + 1 := e184
        have e185 : (pf181 11).toInt < (tf 6).toInt := e185
        have e186 : bp ta z168 + 1 ≤ bp ta (pf181 11) := e186
        have e187 : (pf181 12).toInt = (pf153 12).toInt := e187
        have e188 : (pf181 13).toInt = (pf153 13).toInt := e188
        have e189 : (pf181 24).toInt = (pf153 24).toInt := e189
        have e190 : (pf181 25).toInt = (pf153 25).toInt := e190
        have e191 : (pf181 26).toInt = (pf153 26).toInt := e191
        have hw : pw D A s.heap H locs [wdP cs h r g tf ta pf181 na154 ma155 wa cf ca ef ea xf xa] := hw
        refine lv_iload_n S.x S.b d_Mpg_byKey_167 rfl (lv_at hl 0 rfl) ?_
        exact th_iret (v := v157) S hr rfl hlk hAe hw (⟨pf181, na154, ma155, wa, rfl, (show (pf 11).toInt + 1 ≤ (pf181 11).toInt from by omega), (show (pf181 11).toInt < (tf 6).toInt from by omega), (show (pf 13).toInt + 1 ≤ (pf181 13).toInt from by omega), (show (pf181 13).toInt - (pf 13).toInt ≤ (pf181 11).toInt - (pf 11).toInt from by omega), (show bp ta (pf 11) + 1 ≤ bp ta (pf181 11) from by omega), (show (pf181 12).toInt = (pf 12).toInt from by omega), (show (pf181 24).toInt = (pf 24).toInt from by omega), (show (pf181 25).toInt = (pf 25).toInt from by omega), (show (pf181 26).toInt = (pf 26).toInt from by omega), (show FrB (pf 13).toInt na ma na154 ma155 from hfb), (show FrW (pf 26).toInt wa wa from hfw), (show VlS ta (tf 6).toInt na154 ma155 v157 (pf 13).toInt (pf181 13).toInt (3 * (bp ta (pf181 11) - bp ta (pf 11))) (200 - (pf 12).toInt) from (VlV.le (st_ret (hi := (pf181 13).toInt) (D := 130) ⟨by omega, hf_14_v157, hf_15_v157, ⟨by omega, by omega⟩, hf_21_v157⟩ (by omega) hf_17_v157 (by omega) (lo := v157.toInt + 1) (oz_n (W := 0) (by decide) (by omega)) (by omega)) (by omega) (by omega) (by omega) (by omega)))⟩) d_Mpg_byKey_168
      · have nc176 : v173.toInt = (0 : Int) := (i_eq (x := v173) (y := 0)).mp c176
        refine lv_aload_n S.x S.b d_Mpg_byKey_151 rfl (lv_at hl 1 rfl) ?_
        refine px_get S k_Mpg hT hw 0 0 17 (v := .ref (r 17)) rfl rfl rfl (by decide) m10_1 d_Mpg_byKey_152 ?_
        refine lv_iload_n S.x S.b d_Mpg_byKey_155 rfl (lv_at hl 0 rfl) ?_
        refine lv_aload_n S.x S.b d_Mpg_byKey_156 rfl (lv_at hl 1 rfl) ?_
        refine th_calli (ps0 := [wdP cs h r g tf ta pf na ma wa cf ca ef ea xf xa]) (pr := []) (pcs := [wdP cs h r g tf ta (upd pf153 11 z168) na154 ma155 wa cf ca ef ea xf xa]) (As := []) (rest := [.int v157, .ref (r 17)]) (c_S_expression l D cs h r g tf ta cf ca ef ea xf xa (upd pf153 11 z168) na154 ma155 wa  lv (show 0 ≤ z168.toInt from by omega) (show z168.toInt < (tf 6).toInt from by omega) (show (tf 6).toInt ≤ 2049 from by omega) (show 0 ≤ (pf153 12).toInt from by omega) (show (pf153 12).toInt ≤ 60 from by omega) (show 0 ≤ (pf153 13).toInt from by omega) (show (pf153 13).toInt ≤ z168.toInt + 20 from by omega) (show 0 ≤ (pf153 26).toInt from by omega) (show (pf153 26).toInt ≤ (pf153 12).toInt from by omega) (show 61 ≤ (pf153 12).toInt + (lv : Int) from by omega) (show lv ≤ 61 from by omega) hlf htk) S hT hw (oX_call (P := (fun A U H => (oN A U H) ∧ (oP A g U H))) (pr := []) (oG_and oG_N oG_P) hw hA ⟨hN, hP⟩) (px_recv hT hw 0 0 rfl rfl rfl) m12_38 m12_35 m12_37 ms_9_11 m1_21 q_Mpg_expression ⟨show (8 * lv + 20) + 1 ≤ (8 * lv + 27) from by omega, show 8 + (7 + 11) + (220 * lv + 720) ≤ (220 * lv + 1240) from by omega⟩ hl.1 rfl (Nat.le_of_ble_eq_true rfl) d_Mpg_byKey_157 ⟨Nat.le_of_ble_eq_true rfl, Nat.le_of_ble_eq_true rfl⟩ hne hlk hA hAe (fun o t h => Or.inr h) ?_ (fun v201 p200 H locs hp200 hw => ?_)
        · exact fun p1 H1 locs1 hp hw => by obtain ⟨pq1, pq2, pq3, pq4, rfl, hq1, hq2⟩ := hp; exact ⟨_, ⟨pq1, pq2, pq3, pq4, rfl, hq1, hq2⟩, hw⟩
        obtain ⟨pf196, na197, ma198, wa199, rfl, e202, e203, e204, e205, e206, e207, e208, e209, e210, e211, e212, e213⟩ := hp200
        have e202 : z168.toInt + 1 ≤ (pf196 11).toInt := e202
        have e203 : (pf196 11).toInt < (tf 6).toInt := e203
        have e204 : (pf153 13).toInt + 1 ≤ (pf196 13).toInt := e204
        have e205 : (pf196 13).toInt - (pf153 13).toInt ≤ (pf196 11).toInt - z168.toInt := e205
        have e206 : bp ta z168 + 1 ≤ bp ta (pf196 11) := e206
        have e207 : (pf196 12).toInt = (pf153 12).toInt := e207
        have e208 : (pf196 24).toInt = (pf153 24).toInt := e208
        have e209 : (pf196 25).toInt = (pf153 25).toInt := e209
        have e210 : (pf196 26).toInt = (pf153 26).toInt := e210
        have e211 : FrB (pf153 13).toInt na154 ma155 na197 ma198 := e211
        have hf_14_v157 := (fb_n e211 (by omega) (by omega)).trans hf_14_v157
        have hf_15_v157 := (fb_n e211 (by omega) (by omega)).trans hf_15_v157
        have hf_17_v157 := (fb_n e211 (by omega) (by omega)).trans hf_17_v157
        have hf_21_v157 := (fb_n e211 (by omega) (by omega)).trans hf_21_v157
        have hfb := hfb.tr e211 (by omega)
        have e212 : FrW (pf153 26).toInt wa wa199 := e212
        have hfw := hfw.tr e212 (by omega)
        have e213 : ExR ta (tf 6).toInt na197 ma198 v201 (pf153 13).toInt (pf196 13).toInt (3 * (bp ta (pf196 11) - bp ta z168)) (pf153 12).toInt := e213
        have ht_v201 := e213
        have hn_ht_v201 := ht_v201.num
        have hw : pw D A s.heap H locs [wdP cs h r g tf ta pf196 na197 ma198 wa199 cf ca ef ea xf xa] := hw
        have lv201 := Int32.le_toInt v201
        have uv201 := Int32.toInt_lt v201
        refine px_iast S hT hw 0 13 (n := 2100) (f := (na197 17)) (x := v157) (y := v201) rfl gp_17 (vp_in_iff.mpr (by constructor <;> omega)) d_Mpg_byKey_160 (w' := wdP cs h r g tf ta pf196 (va_up na197 17 (upd (na197 17) v157.toNatClampNeg v201)) ma198 wa199 cf ca ef ea xf xa) (ps' := [wdP cs h r g tf ta pf196 (va_up na197 17 (upd (na197 17) v157.toNatClampNeg v201)) ma198 wa199 cf ca ef ea xf xa]) sp_17 rfl (fun H locs hw => ?_)
        obtain ⟨na214, hu_na214⟩ : ∃ y : Nat → Nat → Int32, y = va_up na197 17 (upd (na197 17) v157.toNatClampNeg v201) := ⟨_, rfl⟩
        have hw : pw D A s.heap _ _ [wdP cs h r g tf ta pf196 na214 ma198 wa199 cf ca ef ea xf xa] := (by rw [hu_na214]; exact hw)
        obtain ⟨ht_v201, hdq_v201⟩ := ht_v201.ag (ag_n hu_na214 (by omega) (by omega)) (by omega)
        have hn_ht_v201 := ht_v201.num
        have hf_14_v157 := (fl_n hu_na214 (by decide)).trans hf_14_v157
        have hf_15_v157 := (fl_n hu_na214 (by decide)).trans hf_15_v157
        have hf_21_v157 := (fl_n hu_na214 (by decide)).trans hf_21_v157
        have hf_17_v157 : na214 17 v157.toNatClampNeg = v201 := (by rw [hu_na214, va_up_s, pk_us])
        have hfb : FrB (pf 13).toInt na ma na214 ma198 := (by rw [hu_na214]; exact FrB.un hfb (by omega) (by omega))
        refine lv_aload_n S.x S.b d_Mpg_byKey_161 rfl (lv_at hl 1 rfl) ?_
        obtain ⟨sk215, hRsk215, st216, sb217, hSsk215⟩ := oP_lit hP (k := 101) (tx := ";") (n := 1) (List.mem_of_getElem? (i := 42) rfl)
        refine va_ldcS S.x S.b S.own hRsk215 d_Mpg_byKey_162 ?_
        refine th_callv (ps0 := [wdP cs h r g tf ta pf na ma wa cf ca ef ea xf xa]) (pr := []) (pcs := [wdP cs h r g tf ta pf196 na214 ma198 wa199 cf ca ef ea xf xa]) (As := [.ref sk215]) (rest := []) (c_mp_take l D cs sk215 1 h r g tf ta na214 ma198 wa199 cf ca ef ea xf xa pf196   (show 0 ≤ (pf196 11).toInt from by omega) (show (pf196 11).toInt < (tf 6).toInt from by omega) (show (tf 6).toInt ≤ 2049 from by omega) (show 1 ≤ 100 from by omega) hlf htk) S hT hw (oX_call (P := (fun A U H => (oN A U H) ∧ (oP A g U H) ∧ (StS A sk215 1 U H))) (pr := []) (oG_and oG_N (oG_and oG_P oG_Q)) hw hA ⟨hN, hP, ⟨_, _, hSsk215⟩⟩) (px_recv hT hw 0 0 rfl rfl rfl) m12_57 m12_54 m12_56 ms_9_15 m1_21 q_Mpg_take ⟨show 7 + 1 ≤ (8 * lv + 27) from by omega, show 8 + (2 + 11) + 230 ≤ (220 * lv + 1240) from by omega⟩ hl.1 rfl (Nat.le_of_ble_eq_true rfl) d_Mpg_byKey_164 ⟨Nat.le_of_ble_eq_true rfl, Nat.le_of_ble_eq_true rfl⟩ hne hlk hA hAe (fun o t h => Or.inr h) ?_ (fun p220 H locs hp220 hw => ?_)
        · exact fun p1 H1 locs1 hp hw => by obtain ⟨pq1, pq2, pq3, pq4, rfl, hq1, hq2⟩ := hp; exact ⟨_, ⟨pq1, pq2, pq3, pq4, rfl, hq1, hq2⟩, hw⟩
        obtain ⟨pf219, rfl, e222, e223, e224, e225, e226, e227, e228, e229⟩ := hp220
        have e222 : (pf219 11).toInt = (pf196 11).toInt + 1 := e222
        have e223 : (pf219 11).toInt < (tf 6).toInt := e223
        have e224 : bp ta (pf196 11) + 1 ≤ bp ta (pf219 11) := e224
        have e225 : (pf219 12).toInt = (pf196 12).toInt := e225
        have e226 : (pf219 13).toInt = (pf196 13).toInt := e226
        have e227 : (pf219 24).toInt = (pf196 24).toInt := e227
        have e228 : (pf219 25).toInt = (pf196 25).toInt := e228
        have e229 : (pf219 26).toInt = (pf196 26).toInt := e229
        have hw : pw D A s.heap H locs [wdP cs h r g tf ta pf219 na214 ma198 wa199 cf ca ef ea xf xa] := hw
        refine lv_iload_n S.x S.b d_Mpg_byKey_167 rfl (lv_at hl 0 rfl) ?_
        exact th_iret (v := v157) S hr rfl hlk hAe hw (⟨pf219, na214, ma198, wa199, rfl, (show (pf 11).toInt + 1 ≤ (pf219 11).toInt from by omega), (show (pf219 11).toInt < (tf 6).toInt from by omega), (show (pf 13).toInt + 1 ≤ (pf219 13).toInt from by omega), (show (pf219 13).toInt - (pf 13).toInt ≤ (pf219 11).toInt - (pf 11).toInt from by omega), (show bp ta (pf 11) + 1 ≤ bp ta (pf219 11) from by omega), (show (pf219 12).toInt = (pf 12).toInt from by omega), (show (pf219 24).toInt = (pf 24).toInt from by omega), (show (pf219 25).toInt = (pf 25).toInt from by omega), (show (pf219 26).toInt = (pf 26).toInt from by omega), (show FrB (pf 13).toInt na ma na214 ma198 from hfb), (show FrW (pf 26).toInt wa wa199 from hfw), (show VlS ta (tf 6).toInt na214 ma198 v157 (pf 13).toInt (pf219 13).toInt (3 * (bp ta (pf219 11) - bp ta (pf 11))) (200 - (pf 12).toInt) from (VlV.le (st_ret (hi := (pf219 13).toInt) (D := 130) ⟨by omega, hf_14_v157, hf_15_v157, ⟨by omega, by omega⟩, hf_21_v157⟩ (by omega) hf_17_v157 (by omega) (lo := v157.toInt + 1) (oz_v fe_ok (VlV.le (exr_vl ht_v201 (by omega)) (by omega) (by omega) (Int.le_refl _) (by omega))) (by omega)) (by omega) (by omega) (by omega) (by omega)))⟩) d_Mpg_byKey_168
set_option maxHeartbeats 4000000 in
set_option maxRecDepth 100000 in
theorem c_mp_statement (l : Launch) (D : va_G) (cs : Nat → ClassId) (h : Nat) (r : Nat → Nat) (g : Nat → Nat → Option Nat) (tf : Nat → Int32) (ta : Nat → Nat → Int32) (cf : Nat → Int32) (ca : Nat → Nat → Int32) (ef : Nat → Int32) (ea : Nat → Nat → Int32) (xf : Nat → Int32) (xa : Nat → Nat → Int32) (pf : Nat → Int32) (na : Nat → Nat → Int32) (ma : Nat → Nat → Int32) (wa : Nat → Nat → Int32) (lv : Nat) (g0 : 0 ≤ (pf 11).toInt) (g1 : (pf 11).toInt < (tf 6).toInt) (g2 : (tf 6).toInt ≤ 2049) (g3 : 0 ≤ (pf 12).toInt) (g4 : (pf 12).toInt ≤ 60) (g5 : 0 ≤ (pf 13).toInt) (g6 : (pf 13).toInt ≤ (pf 11).toInt + 10) (g7 : 0 ≤ (pf 26).toInt) (g8 : (pf 26).toInt ≤ (pf 12).toInt) (g9 : 61 ≤ (pf 12).toInt + (lv : Int)) (g10 : lv ≤ 61) (hlf : l.flags = pinnedFlags ++ [noTraceFlag]) (htk : TkI tf ta) (hLT : LvT l D cs lv) : ThI l y_Mpg_statement b_Mpg_statement 2 (.int) D cs (8 * lv + 28) (220 * lv + 1280) [.ref h] [wdP cs h r g tf ta pf na ma wa cf ca ef ea xf xa] (oX (fun A U H => (oN A U H) ∧ (oP A g U H)) [wdP cs h r g tf ta pf na ma wa cf ca ef ea xf xa]) "java/lang/IllegalArgumentException" (fun v ps => ∃ (pf' : Nat → Int32) (na' : Nat → Nat → Int32) (ma' : Nat → Nat → Int32) (wa' : Nat → Nat → Int32), (ps = [wdP cs h r g tf ta pf' na' ma' wa' cf ca ef ea xf xa]) ∧ ((pf 11).toInt + 1 ≤ (pf' 11).toInt) ∧ ((pf' 11).toInt < (tf 6).toInt) ∧ ((pf 13).toInt + 1 ≤ (pf' 13).toInt) ∧ ((pf' 13).toInt - (pf 13).toInt ≤ (pf' 11).toInt - (pf 11).toInt) ∧ (bp ta (pf 11) + 1 ≤ bp ta (pf' 11)) ∧ ((pf' 12).toInt = (pf 12).toInt) ∧ ((pf' 24).toInt = (pf 24).toInt) ∧ ((pf' 25).toInt = (pf 25).toInt) ∧ ((pf' 26).toInt = (pf 26).toInt) ∧ (FrB (pf 13).toInt na ma na' ma') ∧ (FrW (pf 26).toInt wa wa') ∧ (VlS ta (tf 6).toInt na' ma' v (pf 13).toInt (pf' 13).toInt (3 * (bp ta (pf' 11) - bp ta (pf 11))) (200 - (pf 12).toInt))) (fun ps => ∃ (pf' : Nat → Int32) (na' : Nat → Nat → Int32) (ma' : Nat → Nat → Int32) (wa' : Nat → Nat → Int32), ps = [wdP cs h r g tf ta pf' na' ma' wa' cf ca ef ea xf xa] ∧ 0 ≤ (pf' 11).toInt ∧ (pf' 11).toInt + 1 ≤ (tf 6).toInt) := by
  refine th_enter (by decide) (Nat.le_of_ble_eq_true rfl) ?_
  intro p e s m below meth c A ls hAe S hr hlk hnm hA hT hX hw hl hne hadm
  have hl : lv_has ls 2 [(0, .ref h)] := hl
  have cst1 : (1 : Int32).toInt = 1 := rfl
  have cst2 : (2 : Int32).toInt = 2 := rfl
  have cst21 : (21 : Int32).toInt = 21 := rfl
  have cst22 : (22 : Int32).toInt = 22 := rfl
  have hX : (fun A U H => (oN A U H) ∧ (oP A g U H)) A s s.heap := by rw [hAe]; exact hX
  obtain ⟨hN, hP⟩ := hX
  have hZ := hP.1
  have hF0 := hP.2.1
  have hfb : FrB (pf 13).toInt na ma na ma := FrB.rf
  have hfw : FrW (pf 26).toInt wa wa := FrW.rf
  refine lv_aload_n S.x S.b d_Mpg_statement_0 rfl (lv_at hl 0 rfl) ?_
  obtain ⟨sk1, hRsk1, st2, sb3, hSsk1⟩ := oP_lit hP (k := 91) (tx := "{") (n := 1) (List.mem_of_getElem? (i := 37) rfl)
  refine va_ldcS S.x S.b S.own hRsk1 d_Mpg_statement_1 ?_
  refine px_calli (pr := []) (px_runV (As := [.ref sk1]) (rest := []) S (c_mp_is l D cs sk1 1 h r g tf ta pf na ma wa cf ca ef ea xf xa   (show 0 ≤ (pf 11).toInt from by omega) (show (pf 11).toInt < (tf 6).toInt from by omega) (show (tf 6).toInt ≤ 2049 from by omega) (show 1 ≤ 100 from by omega) htk _) hT (pr := []) (pcs := [wdP cs h r g tf ta pf na ma wa cf ca ef ea xf xa]) hw (oX_call (P := (fun A U H => (oP A g U H) ∧ (StS A sk1 1 U H))) (pr := []) (oG_and oG_P oG_Q) hw hA ⟨hP, ⟨_, _, hSsk1⟩⟩) (px_recv hT hw 0 0 rfl rfl rfl) m11_217 m11_214 m11_216 ms_8_14 m1_21 q_Mpg_is ⟨show 3 + 1 ≤ (8 * lv + 28) from by omega, show 8 + (2 + 11) + 120 ≤ (220 * lv + 1280) from by omega⟩ hl.1 rfl (Nat.le_of_ble_eq_true rfl) d_Mpg_statement_3 ⟨Nat.le_of_ble_eq_true rfl, Nat.le_of_ble_eq_true rfl⟩) hw hA (fun v5 p4 H locs hp4 hw => ?_)
  obtain ⟨rfl, e6, e7⟩ := hp4
  have e6 := z_rng e6
  have e7 : v5.toInt = 1 → (pf 11).toInt + 1 < (tf 6).toInt ∧ so ta (pf 11) = 5 := e7
  have hw : pw D A s.heap H locs [wdP cs h r g tf ta pf na ma wa cf ca ef ea xf xa] := hw
  have lv5 := Int32.le_toInt v5
  have uv5 := Int32.toInt_lt v5
  refine lv_if_eq (tgt := 14) S.x S.b d_Mpg_statement_6 (by decide) (fun c8 => ?_) (fun c8 => ?_)
  · have nc8 : v5.toInt = (0 : Int) := (i_eq (x := v5) (y := 0)).mp c8
    refine lv_aload_n S.x S.b d_Mpg_statement_14 rfl (lv_at hl 0 rfl) ?_
    obtain ⟨sk9, hRsk9, st10, sb11, hSsk9⟩ := oP_lit hP (k := 101) (tx := ";") (n := 1) (List.mem_of_getElem? (i := 42) rfl)
    refine va_ldcS S.x S.b S.own hRsk9 d_Mpg_statement_15 ?_
    refine px_calli (pr := []) (px_runV (As := [.ref sk9]) (rest := []) S (c_mp_is l D cs sk9 1 h r g tf ta pf na ma wa cf ca ef ea xf xa   (show 0 ≤ (pf 11).toInt from by omega) (show (pf 11).toInt < (tf 6).toInt from by omega) (show (tf 6).toInt ≤ 2049 from by omega) (show 1 ≤ 100 from by omega) htk _) hT (pr := []) (pcs := [wdP cs h r g tf ta pf na ma wa cf ca ef ea xf xa]) hw (oX_call (P := (fun A U H => (oP A g U H) ∧ (StS A sk9 1 U H))) (pr := []) (oG_and oG_P oG_Q) hw hA ⟨hP, ⟨_, _, hSsk9⟩⟩) (px_recv hT hw 0 0 rfl rfl rfl) m11_217 m11_214 m11_216 ms_8_14 m1_21 q_Mpg_is ⟨show 3 + 1 ≤ (8 * lv + 28) from by omega, show 8 + (2 + 11) + 120 ≤ (220 * lv + 1280) from by omega⟩ hl.1 rfl (Nat.le_of_ble_eq_true rfl) d_Mpg_statement_17 ⟨Nat.le_of_ble_eq_true rfl, Nat.le_of_ble_eq_true rfl⟩) hw hA (fun v13 p12 H locs hp12 hw => ?_)
    obtain ⟨rfl, e14, e15⟩ := hp12
    have e14 := z_rng e14
    have e15 : v13.toInt = 1 → (pf 11).toInt + 1 < (tf 6).toInt ∧ so ta (pf 11) = 5 := e15
    have hw : pw D A s.heap H locs [wdP cs h r g tf ta pf na ma wa cf ca ef ea xf xa] := hw
    have lv13 := Int32.le_toInt v13
    have uv13 := Int32.toInt_lt v13
    refine lv_if_eq (tgt := 46) S.x S.b d_Mpg_statement_20 (by decide) (fun c16 => ?_) (fun c16 => ?_)
    · have nc16 : v13.toInt = (0 : Int) := (i_eq (x := v13) (y := 0)).mp c16
      refine lv_aload_n S.x S.b d_Mpg_statement_46 rfl (lv_at hl 0 rfl) ?_
      refine px_calli (pr := []) (px_runV (As := []) (rest := []) S (c_mp_isType l D cs h r g tf ta pf na ma wa cf ca ef ea xf xa   (show 0 ≤ (pf 11).toInt from by omega) (show (pf 11).toInt < (tf 6).toInt from by omega) (show (tf 6).toInt ≤ 2049 from by omega) htk _) hT (pr := []) (pcs := [wdP cs h r g tf ta pf na ma wa cf ca ef ea xf xa]) hw px_X.tt (px_recv hT hw 0 0 rfl rfl rfl) m12_85 m12_82 m12_84 ms_10_6 m1_21 q_Mpg_isType ⟨show 1 + 1 ≤ (8 * lv + 28) from by omega, show 8 + (1 + 11) + 40 ≤ (220 * lv + 1280) from by omega⟩ hl.1 rfl (Nat.le_of_ble_eq_true rfl) d_Mpg_statement_47 ⟨Nat.le_of_ble_eq_true rfl, Nat.le_of_ble_eq_true rfl⟩) hw hA (fun v18 p17 H locs hp17 hw => ?_)
      obtain ⟨rfl, e19, e20⟩ := hp17
      have e19 := z_rng e19
      have e20 : v18.toInt = 1 → (pf 11).toInt + 1 < (tf 6).toInt ∧ so ta (pf 11) = 2 ∧ 0 ≤ wh ta (pf 11) ∧ wh ta (pf 11) ≤ 1 := e20
      have hw : pw D A s.heap H locs [wdP cs h r g tf ta pf na ma wa cf ca ef ea xf xa] := hw
      have lv18 := Int32.le_toInt v18
      have uv18 := Int32.toInt_lt v18
      refine lv_if_eq (tgt := 58) S.x S.b d_Mpg_statement_50 (by decide) (fun c21 => ?_) (fun c21 => ?_)
      · have nc21 : v18.toInt = (0 : Int) := (i_eq (x := v18) (y := 0)).mp c21
        refine lv_aload_n S.x S.b d_Mpg_statement_58 rfl (lv_at hl 0 rfl) ?_
        refine px_get S k_Mpg hT hw 0 0 9 (v := .ref (r 9)) rfl rfl rfl (by decide) m9_233 d_Mpg_statement_59 ?_
        refine lv_aload_n S.x S.b d_Mpg_statement_62 rfl (lv_at hl 0 rfl) ?_
        refine px_get S k_Mpg hT hw 0 0 11 (v := .int (pf 11)) rfl rfl rfl (by decide) m9_235 d_Mpg_statement_63 ?_
        refine px_bald S hT hw 0 8 (n := 2060) (f := (ta 9)) rfl gp_9 (x := (pf 11)) (vp_in_iff.mpr (by constructor <;> omega)) d_Mpg_statement_66 ?_
        refine lv_topi (fun z22 ez22 => ?_)
        have lz22 := Int32.le_toInt z22
        have uz22 := Int32.toInt_lt z22
        have rz22 := tk_s htk (x := (pf 11)) (by omega) (by omega) ez22
        refine lv_iconst (v := 2) S.x S.b d_Mpg_statement_67 (by decide) ?_
        refine lv_icmp_ne (tgt := 85) S.x S.b d_Mpg_statement_68 (by decide) (fun c23 => ?_) (fun c23 => ?_)
        · have nc23 : ¬ z22.toInt = (2 : Int) := mt (i_eq (x := z22) (y := 2)).mpr c23
          refine lv_aload_n S.x S.b d_Mpg_statement_85 rfl (lv_at hl 0 rfl) ?_
          refine lv_bipush (v := 22) S.x S.b d_Mpg_statement_86 (by decide) ?_
          refine lv_aload_n S.x S.b d_Mpg_statement_88 rfl (lv_at hl 0 rfl) ?_
          refine px_get S k_Mpg hT hw 0 0 11 (v := .int (pf 11)) rfl rfl rfl (by decide) m9_235 d_Mpg_statement_89 ?_
          refine px_calli (pr := []) (px_runV (As := [.int 22, .int (pf 11)]) (rest := []) S (c_mp_make l D cs h r g tf ta wa cf ca ef ea xf xa pf na ma 22 (pf 11)  (show 0 ≤ (pf 13).toInt from by omega) (show (pf 13).toInt < 2100 from by omega) _) hT (pr := []) (pcs := [wdP cs h r g tf ta pf na ma wa cf ca ef ea xf xa]) hw px_X.tt (px_recv hT hw 0 0 rfl rfl rfl) m11_209 m11_206 m11_208 ms_8_12 m1_21 q_Mpg_make ⟨show 0 + 1 ≤ (8 * lv + 28) from by omega, show 8 + (3 + 11) + 0 ≤ (220 * lv + 1280) from by omega⟩ hl.1 rfl (Nat.le_of_ble_eq_true rfl) d_Mpg_statement_92 ⟨Nat.le_of_ble_eq_true rfl, Nat.le_of_ble_eq_true rfl⟩) hw hA (fun v31 p30 H locs hp30 hw => ?_)
          obtain ⟨pf27, na28, ma29, rfl, e32, e33, e34, e35, e36, e37, e38, e39⟩ := hp30
          have e32 : v31.toInt = (pf 13).toInt := e32
          have e33 : (pf27 13).toInt = (pf 13).toInt + 1 := e33
          have e34 : (pf27 11).toInt = (pf 11).toInt := e34
          have e35 : (pf27 12).toInt = (pf 12).toInt := e35
          have e36 : (pf27 24).toInt = (pf 24).toInt := e36
          have e37 : (pf27 25).toInt = (pf 25).toInt := e37
          have e38 : (pf27 26).toInt = (pf 26).toInt := e38
          have e39 : MkN na ma na28 ma29 v31 (22 : Int32) (pf 11) := e39
          obtain ⟨qb401, qb402, qb403, qb404⟩ := tk_eq (ta := ta) (x := (pf27 11)) (y := (pf 11)) (by omega)
          have hmk_v31 := e39
          have hfm_v31 := MkN.frb (b := v31.toInt) hmk_v31 (by omega) (by omega)
          have hfb := hfb.tr hfm_v31 (by omega)
          have hf_14_v31 := hmk_v31.2.1 (by decide) (by decide)
          have hf_15_v31 := hmk_v31.2.2.1
          have hf_17_v31 := hmk_v31.2.2.2.2.1
          have hf_21_v31 := hmk_v31.2.2.2.2.2.2.2.2.1
          clear hmk_v31 hfm_v31
          have hw : pw D A s.heap H locs [wdP cs h r g tf ta pf27 na28 ma29 wa cf ca ef ea xf xa] := hw
          have lv31 := Int32.le_toInt v31
          have uv31 := Int32.toInt_lt v31
          refine lv_istore_n (lv' := [(1, .int v31), (0, .ref h)]) S.x S.b d_Mpg_statement_95 rfl hl (by decide) rfl (fun ls hl => ?_)
          refine lv_aload_n S.x S.b d_Mpg_statement_96 rfl (lv_at hl 1 rfl) ?_
          refine px_get S k_Mpg hT hw 0 0 17 (v := .ref (r 17)) rfl rfl rfl (by decide) m10_1 d_Mpg_statement_97 ?_
          refine lv_iload_n S.x S.b d_Mpg_statement_100 rfl (lv_at hl 0 rfl) ?_
          refine lv_aload_n S.x S.b d_Mpg_statement_101 rfl (lv_at hl 1 rfl) ?_
          refine th_calli (ps0 := [wdP cs h r g tf ta pf na ma wa cf ca ef ea xf xa]) (pr := []) (pcs := [wdP cs h r g tf ta pf27 na28 ma29 wa cf ca ef ea xf xa]) (As := []) (rest := [.int v31, .ref (r 17)]) (c_S_expression l D cs h r g tf ta cf ca ef ea xf xa pf27 na28 ma29 wa  lv (show 0 ≤ (pf27 11).toInt from by omega) (show (pf27 11).toInt < (tf 6).toInt from by omega) (show (tf 6).toInt ≤ 2049 from by omega) (show 0 ≤ (pf27 12).toInt from by omega) (show (pf27 12).toInt ≤ 60 from by omega) (show 0 ≤ (pf27 13).toInt from by omega) (show (pf27 13).toInt ≤ (pf27 11).toInt + 20 from by omega) (show 0 ≤ (pf27 26).toInt from by omega) (show (pf27 26).toInt ≤ (pf27 12).toInt from by omega) (show 61 ≤ (pf27 12).toInt + (lv : Int) from by omega) (show lv ≤ 61 from by omega) hlf htk) S hT hw (oX_call (P := (fun A U H => (oN A U H) ∧ (oP A g U H))) (pr := []) (oG_and oG_N oG_P) hw hA ⟨hN, hP⟩) (px_recv hT hw 0 0 rfl rfl rfl) m12_38 m12_35 m12_37 ms_9_11 m1_21 q_Mpg_expression ⟨show (8 * lv + 20) + 1 ≤ (8 * lv + 28) from by omega, show 8 + (7 + 11) + (220 * lv + 720) ≤ (220 * lv + 1280) from by omega⟩ hl.1 rfl (Nat.le_of_ble_eq_true rfl) d_Mpg_statement_102 ⟨Nat.le_of_ble_eq_true rfl, Nat.le_of_ble_eq_true rfl⟩ hne hlk hA hAe (fun o t h => Or.inr h) ?_ (fun v50 p49 H locs hp49 hw => ?_)
          · exact fun p1 H1 locs1 hp hw => by obtain ⟨pq1, pq2, pq3, pq4, rfl, hq1, hq2⟩ := hp; exact ⟨_, ⟨pq1, pq2, pq3, pq4, rfl, hq1, hq2⟩, hw⟩
          obtain ⟨pf45, na46, ma47, wa48, rfl, e51, e52, e53, e54, e55, e56, e57, e58, e59, e60, e61, e62⟩ := hp49
          have e51 : (pf27 11).toInt + 1 ≤ (pf45 11).toInt := e51
          have e52 : (pf45 11).toInt < (tf 6).toInt := e52
          have e53 : (pf27 13).toInt + 1 ≤ (pf45 13).toInt := e53
          have e54 : (pf45 13).toInt - (pf27 13).toInt ≤ (pf45 11).toInt - (pf27 11).toInt := e54
          have e55 : bp ta (pf27 11) + 1 ≤ bp ta (pf45 11) := e55
          have e56 : (pf45 12).toInt = (pf27 12).toInt := e56
          have e57 : (pf45 24).toInt = (pf27 24).toInt := e57
          have e58 : (pf45 25).toInt = (pf27 25).toInt := e58
          have e59 : (pf45 26).toInt = (pf27 26).toInt := e59
          have e60 : FrB (pf27 13).toInt na28 ma29 na46 ma47 := e60
          have hf_14_v31 := (fb_n e60 (by omega) (by omega)).trans hf_14_v31
          have hf_15_v31 := (fb_n e60 (by omega) (by omega)).trans hf_15_v31
          have hf_17_v31 := (fb_n e60 (by omega) (by omega)).trans hf_17_v31
          have hf_21_v31 := (fb_n e60 (by omega) (by omega)).trans hf_21_v31
          have hfb := hfb.tr e60 (by omega)
          have e61 : FrW (pf27 26).toInt wa wa48 := e61
          have hfw := hfw.tr e61 (by omega)
          have e62 : ExR ta (tf 6).toInt na46 ma47 v50 (pf27 13).toInt (pf45 13).toInt (3 * (bp ta (pf45 11) - bp ta (pf27 11))) (pf27 12).toInt := e62
          have ht_v50 := e62
          have hn_ht_v50 := ht_v50.num
          have hw : pw D A s.heap H locs [wdP cs h r g tf ta pf45 na46 ma47 wa48 cf ca ef ea xf xa] := hw
          have lv50 := Int32.le_toInt v50
          have uv50 := Int32.toInt_lt v50
          refine px_iast S hT hw 0 13 (n := 2100) (f := (na46 17)) (x := v31) (y := v50) rfl gp_17 (vp_in_iff.mpr (by constructor <;> omega)) d_Mpg_statement_105 (w' := wdP cs h r g tf ta pf45 (va_up na46 17 (upd (na46 17) v31.toNatClampNeg v50)) ma47 wa48 cf ca ef ea xf xa) (ps' := [wdP cs h r g tf ta pf45 (va_up na46 17 (upd (na46 17) v31.toNatClampNeg v50)) ma47 wa48 cf ca ef ea xf xa]) sp_17 rfl (fun H locs hw => ?_)
          obtain ⟨na63, hu_na63⟩ : ∃ y : Nat → Nat → Int32, y = va_up na46 17 (upd (na46 17) v31.toNatClampNeg v50) := ⟨_, rfl⟩
          have hw : pw D A s.heap _ _ [wdP cs h r g tf ta pf45 na63 ma47 wa48 cf ca ef ea xf xa] := (by rw [hu_na63]; exact hw)
          obtain ⟨ht_v50, hdq_v50⟩ := ht_v50.ag (ag_n hu_na63 (by omega) (by omega)) (by omega)
          have hn_ht_v50 := ht_v50.num
          have hf_14_v31 := (fl_n hu_na63 (by decide)).trans hf_14_v31
          have hf_15_v31 := (fl_n hu_na63 (by decide)).trans hf_15_v31
          have hf_21_v31 := (fl_n hu_na63 (by decide)).trans hf_21_v31
          have hf_17_v31 : na63 17 v31.toNatClampNeg = v50 := (by rw [hu_na63, va_up_s, pk_us])
          have hfb : FrB (pf 13).toInt na ma na63 ma47 := (by rw [hu_na63]; exact FrB.un hfb (by omega) (by omega))
          refine lv_aload_n S.x S.b d_Mpg_statement_106 rfl (lv_at hl 1 rfl) ?_
          obtain ⟨sk64, hRsk64, st65, sb66, hSsk64⟩ := oP_lit hP (k := 101) (tx := ";") (n := 1) (List.mem_of_getElem? (i := 42) rfl)
          refine va_ldcS S.x S.b S.own hRsk64 d_Mpg_statement_107 ?_
          refine th_callv (ps0 := [wdP cs h r g tf ta pf na ma wa cf ca ef ea xf xa]) (pr := []) (pcs := [wdP cs h r g tf ta pf45 na63 ma47 wa48 cf ca ef ea xf xa]) (As := [.ref sk64]) (rest := []) (c_mp_take l D cs sk64 1 h r g tf ta na63 ma47 wa48 cf ca ef ea xf xa pf45   (show 0 ≤ (pf45 11).toInt from by omega) (show (pf45 11).toInt < (tf 6).toInt from by omega) (show (tf 6).toInt ≤ 2049 from by omega) (show 1 ≤ 100 from by omega) hlf htk) S hT hw (oX_call (P := (fun A U H => (oN A U H) ∧ (oP A g U H) ∧ (StS A sk64 1 U H))) (pr := []) (oG_and oG_N (oG_and oG_P oG_Q)) hw hA ⟨hN, hP, ⟨_, _, hSsk64⟩⟩) (px_recv hT hw 0 0 rfl rfl rfl) m12_57 m12_54 m12_56 ms_9_15 m1_21 q_Mpg_take ⟨show 7 + 1 ≤ (8 * lv + 28) from by omega, show 8 + (2 + 11) + 230 ≤ (220 * lv + 1280) from by omega⟩ hl.1 rfl (Nat.le_of_ble_eq_true rfl) d_Mpg_statement_109 ⟨Nat.le_of_ble_eq_true rfl, Nat.le_of_ble_eq_true rfl⟩ hne hlk hA hAe (fun o t h => Or.inr h) ?_ (fun p69 H locs hp69 hw => ?_)
          · exact fun p1 H1 locs1 hp hw => by obtain ⟨pq1, pq2, pq3, pq4, rfl, hq1, hq2⟩ := hp; exact ⟨_, ⟨pq1, pq2, pq3, pq4, rfl, hq1, hq2⟩, hw⟩
          obtain ⟨pf68, rfl, e71, e72, e73, e74, e75, e76, e77, e78⟩ := hp69
          have e71 : (pf68 11).toInt = (pf45 11).toInt + 1 := e71
          have e72 : (pf68 11).toInt < (tf 6).toInt := e72
          have e73 : bp ta (pf45 11) + 1 ≤ bp ta (pf68 11) := e73
          have e74 : (pf68 12).toInt = (pf45 12).toInt := e74
          have e75 : (pf68 13).toInt = (pf45 13).toInt := e75
          have e76 : (pf68 24).toInt = (pf45 24).toInt := e76
          have e77 : (pf68 25).toInt = (pf45 25).toInt := e77
          have e78 : (pf68 26).toInt = (pf45 26).toInt := e78
          have hw : pw D A s.heap H locs [wdP cs h r g tf ta pf68 na63 ma47 wa48 cf ca ef ea xf xa] := hw
          refine lv_iload_n S.x S.b d_Mpg_statement_112 rfl (lv_at hl 0 rfl) ?_
          exact th_iret (v := v31) S hr rfl hlk hAe hw (⟨pf68, na63, ma47, wa48, rfl, (show (pf 11).toInt + 1 ≤ (pf68 11).toInt from by omega), (show (pf68 11).toInt < (tf 6).toInt from by omega), (show (pf 13).toInt + 1 ≤ (pf68 13).toInt from by omega), (show (pf68 13).toInt - (pf 13).toInt ≤ (pf68 11).toInt - (pf 11).toInt from by omega), (show bp ta (pf 11) + 1 ≤ bp ta (pf68 11) from by omega), (show (pf68 12).toInt = (pf 12).toInt from by omega), (show (pf68 24).toInt = (pf 24).toInt from by omega), (show (pf68 25).toInt = (pf 25).toInt from by omega), (show (pf68 26).toInt = (pf 26).toInt from by omega), (show FrB (pf 13).toInt na ma na63 ma47 from hfb), (show FrW (pf 26).toInt wa wa48 from hfw), (show VlS ta (tf 6).toInt na63 ma47 v31 (pf 13).toInt (pf68 13).toInt (3 * (bp ta (pf68 11) - bp ta (pf 11))) (200 - (pf 12).toInt) from (VlV.le (st_expr (hi := (pf68 13).toInt) (D := 130) ⟨by omega, hf_14_v31, hf_15_v31, ⟨by omega, by omega⟩, hf_21_v31⟩ hf_17_v31 (by omega) (lo := v31.toInt + 1) (VlV.le (exr_vl ht_v50 (by omega)) (by omega) (by omega) (Int.le_refl _) (by omega)) (by omega)) (by omega) (by omega) (by omega) (by omega)))⟩) d_Mpg_statement_113
        · have nc23 : z22.toInt = (2 : Int) := (i_eq (x := z22) (y := 2)).mp c23
          refine lv_aload_n S.x S.b d_Mpg_statement_71 rfl (lv_at hl 0 rfl) ?_
          refine lv_aload_n S.x S.b d_Mpg_statement_72 rfl (lv_at hl 0 rfl) ?_
          refine px_get S k_Mpg hT hw 0 0 10 (v := .ref (r 10)) rfl rfl rfl (by decide) m9_234 d_Mpg_statement_73 ?_
          refine lv_aload_n S.x S.b d_Mpg_statement_76 rfl (lv_at hl 0 rfl) ?_
          refine px_get S k_Mpg hT hw 0 0 11 (v := .int (pf 11)) rfl rfl rfl (by decide) m9_235 d_Mpg_statement_77 ?_
          refine px_iald S hT hw 0 9 (n := 2060) (f := (ta 10)) rfl gp_10 (x := (pf 11)) (vp_in_iff.mpr (by constructor <;> omega)) d_Mpg_statement_80 ?_
          refine lv_topi (fun z79 ez79 => ?_)
          have lz79 := Int32.le_toInt z79
          have uz79 := Int32.toInt_lt z79
          have rz79 : z79.toInt = wh ta (pf 11) := by rw [ez79]; rfl
          refine th_calli (ps0 := [wdP cs h r g tf ta pf na ma wa cf ca ef ea xf xa]) (pr := []) (pcs := [wdP cs h r g tf ta pf na ma wa cf ca ef ea xf xa]) (As := [.int z79]) (rest := []) (c_mp_byKey l D cs h r g tf ta cf ca ef ea xf xa pf na ma wa z79 lv (show 0 ≤ (pf 11).toInt from by omega) (show (pf 11).toInt < (tf 6).toInt from by omega) (show (tf 6).toInt ≤ 2049 from by omega) (show 0 ≤ (pf 12).toInt from by omega) (show (pf 12).toInt ≤ 60 from by omega) (show 0 ≤ (pf 13).toInt from by omega) (show (pf 13).toInt ≤ (pf 11).toInt + 10 from by omega) (show 0 ≤ (pf 26).toInt from by omega) (show (pf 26).toInt ≤ (pf 12).toInt from by omega) (show 61 ≤ (pf 12).toInt + (lv : Int) from by omega) (show lv ≤ 61 from by omega) (show (pf 11).toInt + 1 < (tf 6).toInt from by omega) hlf htk hLT) S hT hw (oX_call (P := (fun A U H => (oN A U H) ∧ (oP A g U H))) (pr := []) (oG_and oG_N oG_P) hw hA ⟨hN, hP⟩) (px_recv hT hw 0 0 rfl rfl rfl) m12_121 m12_118 m12_120 ms_10_15 m1_21 q_Mpg_byKey ⟨show (8 * lv + 27) + 1 ≤ (8 * lv + 28) from by omega, show 8 + (3 + 11) + (220 * lv + 1240) ≤ (220 * lv + 1280) from by omega⟩ hl.1 rfl (Nat.le_of_ble_eq_true rfl) d_Mpg_statement_81 ⟨Nat.le_of_ble_eq_true rfl, Nat.le_of_ble_eq_true rfl⟩ hne hlk hA hAe (fun o t h => Or.inr h) ?_ (fun v89 p88 H locs hp88 hw => ?_)
          · exact fun p1 H1 locs1 hp hw => by obtain ⟨pq1, pq2, pq3, pq4, rfl, hq1, hq2⟩ := hp; exact ⟨_, ⟨pq1, pq2, pq3, pq4, rfl, hq1, hq2⟩, hw⟩
          obtain ⟨pf84, na85, ma86, wa87, rfl, e90, e91, e92, e93, e94, e95, e96, e97, e98, e99, e100, e101⟩ := hp88
          have e90 : (pf 11).toInt + 1 ≤ (pf84 11).toInt := e90
          have e91 : (pf84 11).toInt < (tf 6).toInt := e91
          have e92 : (pf 13).toInt + 1 ≤ (pf84 13).toInt := e92
          have e93 : (pf84 13).toInt - (pf 13).toInt ≤ (pf84 11).toInt - (pf 11).toInt := e93
          have e94 : bp ta (pf 11) + 1 ≤ bp ta (pf84 11) := e94
          have e95 : (pf84 12).toInt = (pf 12).toInt := e95
          have e96 : (pf84 24).toInt = (pf 24).toInt := e96
          have e97 : (pf84 25).toInt = (pf 25).toInt := e97
          have e98 : (pf84 26).toInt = (pf 26).toInt := e98
          have e99 : FrB (pf 13).toInt na ma na85 ma86 := e99
          have hfb := hfb.tr e99 (by omega)
          have e100 : FrW (pf 26).toInt wa wa87 := e100
          have hfw := hfw.tr e100 (by omega)
          have e101 : VlS ta (tf 6).toInt na85 ma86 v89 (pf 13).toInt (pf84 13).toInt (3 * (bp ta (pf84 11) - bp ta (pf 11))) (200 - (pf 12).toInt) := e101
          have hv_v89 := e101
          have hn_hv_v89 := hv_v89.num fs_ok
          have hw : pw D A s.heap H locs [wdP cs h r g tf ta pf84 na85 ma86 wa87 cf ca ef ea xf xa] := hw
          have lv89 := Int32.le_toInt v89
          have uv89 := Int32.toInt_lt v89
          exact th_iret (v := v89) S hr rfl hlk hAe hw (⟨pf84, na85, ma86, wa87, rfl, (show (pf 11).toInt + 1 ≤ (pf84 11).toInt from by omega), (show (pf84 11).toInt < (tf 6).toInt from by omega), (show (pf 13).toInt + 1 ≤ (pf84 13).toInt from by omega), (show (pf84 13).toInt - (pf 13).toInt ≤ (pf84 11).toInt - (pf 11).toInt from by omega), (show bp ta (pf 11) + 1 ≤ bp ta (pf84 11) from by omega), (show (pf84 12).toInt = (pf 12).toInt from by omega), (show (pf84 24).toInt = (pf 24).toInt from by omega), (show (pf84 25).toInt = (pf 25).toInt from by omega), (show (pf84 26).toInt = (pf 26).toInt from by omega), (show FrB (pf 13).toInt na ma na85 ma86 from hfb), (show FrW (pf 26).toInt wa wa87 from hfw), (show VlS ta (tf 6).toInt na85 ma86 v89 (pf 13).toInt (pf84 13).toInt (3 * (bp ta (pf84 11) - bp ta (pf 11))) (200 - (pf 12).toInt) from (VlV.le hv_v89 (by omega) (by omega) (by omega) (by omega)))⟩) d_Mpg_statement_84
      · have nc21 : ¬ v18.toInt = (0 : Int) := mt (i_eq (x := v18) (y := 0)).mpr c21
        refine lv_aload_n S.x S.b d_Mpg_statement_53 rfl (lv_at hl 0 rfl) ?_
        refine th_calli (ps0 := [wdP cs h r g tf ta pf na ma wa cf ca ef ea xf xa]) (pr := []) (pcs := [wdP cs h r g tf ta pf na ma wa cf ca ef ea xf xa]) (As := []) (rest := []) (c_mp_declaration l D cs h r g tf ta cf ca ef ea xf xa pf na ma wa  lv (show 0 ≤ (pf 11).toInt from by omega) (show (pf 11).toInt < (tf 6).toInt from by omega) (show (tf 6).toInt ≤ 2049 from by omega) (show 0 ≤ (pf 12).toInt from by omega) (show (pf 12).toInt ≤ 60 from by omega) (show 0 ≤ (pf 13).toInt from by omega) (show (pf 13).toInt ≤ (pf 11).toInt + 10 from by omega) (show 0 ≤ (pf 26).toInt from by omega) (show (pf 26).toInt ≤ (pf 12).toInt from by omega) (show 61 ≤ (pf 12).toInt + (lv : Int) from by omega) (show lv ≤ 61 from by omega) (show (pf 11).toInt + 1 < (tf 6).toInt from by omega) (show so ta (pf 11) = 2 from by omega) (show 0 ≤ wh ta (pf 11) from by omega) (show wh ta (pf 11) ≤ 1 from by omega) hlf htk) S hT hw (oX_call (P := (fun A U H => (oN A U H) ∧ (oP A g U H))) (pr := []) (oG_and oG_N oG_P) hw hA ⟨hN, hP⟩) (px_recv hT hw 0 0 rfl rfl rfl) m12_105 m12_102 m12_104 ms_10_11 m1_21 q_Mpg_declaration ⟨show (8 * lv + 25) + 1 ≤ (8 * lv + 28) from by omega, show 8 + (2 + 11) + (220 * lv + 1160) ≤ (220 * lv + 1280) from by omega⟩ hl.1 rfl (Nat.le_of_ble_eq_true rfl) d_Mpg_statement_54 ⟨Nat.le_of_ble_eq_true rfl, Nat.le_of_ble_eq_true rfl⟩ hne hlk hA hAe (fun o t h => Or.inr h) ?_ (fun v111 p110 H locs hp110 hw => ?_)
        · exact fun p1 H1 locs1 hp hw => by obtain ⟨pq1, pq2, pq3, pq4, rfl, hq1, hq2⟩ := hp; exact ⟨_, ⟨pq1, pq2, pq3, pq4, rfl, hq1, hq2⟩, hw⟩
        obtain ⟨pf106, na107, ma108, wa109, rfl, e112, e113, e114, e115, e116, e117, e118, e119, e120, e121, e122, e123, e124⟩ := hp110
        have e112 : (pf 11).toInt + 1 ≤ (pf106 11).toInt := e112
        have e113 : (pf106 11).toInt < (tf 6).toInt := e113
        have e114 : (pf 13).toInt + 1 ≤ (pf106 13).toInt := e114
        have e115 : (pf106 13).toInt - (pf 13).toInt ≤ (pf106 11).toInt - (pf 11).toInt := e115
        have e116 : bp ta (pf 11) + 1 ≤ bp ta (pf106 11) := e116
        have e117 : (pf106 12).toInt = (pf 12).toInt := e117
        have e118 : (pf106 24).toInt = (pf 24).toInt := e118
        have e119 : (pf106 25).toInt = (pf 25).toInt := e119
        have e120 : (pf106 26).toInt = (pf 26).toInt := e120
        have e121 : FrB (pf 13).toInt na ma na107 ma108 := e121
        have hfb := hfb.tr e121 (by omega)
        have e122 : FrW (pf 26).toInt wa wa109 := e122
        have hfw := hfw.tr e122 (by omega)
        have e123 : VlS ta (tf 6).toInt na107 ma108 v111 (pf 13).toInt (pf106 13).toInt (3 * (bp ta (pf106 11) - bp ta (pf 11))) (200 - (pf 12).toInt) := e123
        have hv_v111 := e123
        have hn_hv_v111 := hv_v111.num fs_ok
        have e124 : DcN na107 v111 := e124
        have hw : pw D A s.heap H locs [wdP cs h r g tf ta pf106 na107 ma108 wa109 cf ca ef ea xf xa] := hw
        have lv111 := Int32.le_toInt v111
        have uv111 := Int32.toInt_lt v111
        exact th_iret (v := v111) S hr rfl hlk hAe hw (⟨pf106, na107, ma108, wa109, rfl, (show (pf 11).toInt + 1 ≤ (pf106 11).toInt from by omega), (show (pf106 11).toInt < (tf 6).toInt from by omega), (show (pf 13).toInt + 1 ≤ (pf106 13).toInt from by omega), (show (pf106 13).toInt - (pf 13).toInt ≤ (pf106 11).toInt - (pf 11).toInt from by omega), (show bp ta (pf 11) + 1 ≤ bp ta (pf106 11) from by omega), (show (pf106 12).toInt = (pf 12).toInt from by omega), (show (pf106 24).toInt = (pf 24).toInt from by omega), (show (pf106 25).toInt = (pf 25).toInt from by omega), (show (pf106 26).toInt = (pf 26).toInt from by omega), (show FrB (pf 13).toInt na ma na107 ma108 from hfb), (show FrW (pf 26).toInt wa wa109 from hfw), (show VlS ta (tf 6).toInt na107 ma108 v111 (pf 13).toInt (pf106 13).toInt (3 * (bp ta (pf106 11) - bp ta (pf 11))) (200 - (pf 12).toInt) from (VlV.le hv_v111 (by omega) (by omega) (by omega) (by omega)))⟩) d_Mpg_statement_57
    · have nc16 : ¬ v13.toInt = (0 : Int) := mt (i_eq (x := v13) (y := 0)).mpr c16
      refine lv_aload_n S.x S.b d_Mpg_statement_23 rfl (lv_at hl 0 rfl) ?_
      refine lv_dup S.x S.b d_Mpg_statement_24 rfl ?_
      refine px_get S k_Mpg hT hw 0 0 11 (v := .int (pf 11)) rfl rfl rfl (by decide) m9_235 d_Mpg_statement_25 ?_
      refine lv_iconst (v := 1) S.x S.b d_Mpg_statement_28 (by decide) ?_
      refine lv_iadd S.x S.b d_Mpg_statement_29 ?_
      have lr125 := Int32.le_toInt (pf 11)
      have ur125 := Int32.toInt_lt (pf 11)
      refine lv_topi (fun z126 ez126 => ?_)
      have tz126 : z126.toInt = ((pf 11).toInt + (1 : Int) + 2147483648) % 4294967296 - 2147483648 := by rw [ez126]; exact i_add (pf 11) 1
      have lz126 := Int32.le_toInt z126
      have uz126 := Int32.toInt_lt z126
      try replace tz126 : z126.toInt = (pf 11).toInt + (1 : Int) := by omega
      have hnx29 := tk_n htk (x := (pf 11)) (y := z126) (by omega) (by omega) (by omega)
      refine px_put S k_Mpg hT hw 0 0 11 rfl rfl (by decide) m9_235 rfl rfl rfl (Nat.le_of_ble_eq_true rfl) d_Mpg_statement_30 (w' := wdP cs h r g tf ta (upd pf 11 z126) na ma wa cf ca ef ea xf xa) (ps' := [wdP cs h r g tf ta (upd pf 11 z126) na ma wa cf ca ef ea xf xa]) rfl rfl (fun H locs hw => ?_)
      refine lv_aload_n S.x S.b d_Mpg_statement_33 rfl (lv_at hl 0 rfl) ?_
      refine lv_bipush (v := 21) S.x S.b d_Mpg_statement_34 (by decide) ?_
      refine lv_aload_n S.x S.b d_Mpg_statement_36 rfl (lv_at hl 0 rfl) ?_
      refine px_get S k_Mpg hT hw 0 0 11 (v := .int z126) rfl rfl rfl (by decide) m9_235 d_Mpg_statement_37 ?_
      refine lv_iconst (v := 1) S.x S.b d_Mpg_statement_40 (by decide) ?_
      refine lv_isub S.x S.b d_Mpg_statement_41 ?_
      refine lv_topi (fun z127 ez127 => ?_)
      have tz127 : z127.toInt = (z126.toInt - (1 : Int) + 2147483648) % 4294967296 - 2147483648 := by rw [ez127]; exact i_sub z126 1
      have lz127 := Int32.le_toInt z127
      have uz127 := Int32.toInt_lt z127
      try replace tz127 : z127.toInt = z126.toInt - (1 : Int) := by omega
      refine px_calli (pr := []) (px_runV (As := [.int 21, .int z127]) (rest := []) S (c_mp_make l D cs h r g tf ta wa cf ca ef ea xf xa (upd pf 11 z126) na ma 21 z127  (show 0 ≤ (pf 13).toInt from by omega) (show (pf 13).toInt < 2100 from by omega) _) hT (pr := []) (pcs := [wdP cs h r g tf ta (upd pf 11 z126) na ma wa cf ca ef ea xf xa]) hw px_X.tt (px_recv hT hw 0 0 rfl rfl rfl) m11_209 m11_206 m11_208 ms_8_12 m1_21 q_Mpg_make ⟨show 0 + 1 ≤ (8 * lv + 28) from by omega, show 8 + (3 + 11) + 0 ≤ (220 * lv + 1280) from by omega⟩ hl.1 rfl (Nat.le_of_ble_eq_true rfl) d_Mpg_statement_42 ⟨Nat.le_of_ble_eq_true rfl, Nat.le_of_ble_eq_true rfl⟩) hw hA (fun v135 p134 H locs hp134 hw => ?_)
      obtain ⟨pf131, na132, ma133, rfl, e136, e137, e138, e139, e140, e141, e142, e143⟩ := hp134
      have e136 : v135.toInt = (pf 13).toInt := e136
      have e137 : (pf131 13).toInt = (pf 13).toInt + 1 := e137
      have e138 : (pf131 11).toInt = z126.toInt := e138
      have e139 : (pf131 12).toInt = (pf 12).toInt := e139
      have e140 : (pf131 24).toInt = (pf 24).toInt := e140
      have e141 : (pf131 25).toInt = (pf 25).toInt := e141
      have e142 : (pf131 26).toInt = (pf 26).toInt := e142
      have e143 : MkN na ma na132 ma133 v135 (21 : Int32) z127 := e143
      obtain ⟨qb1441, qb1442, qb1443, qb1444⟩ := tk_eq (ta := ta) (x := (pf131 11)) (y := z126) (by omega)
      have hmk_v135 := e143
      have hfm_v135 := MkN.frb (b := v135.toInt) hmk_v135 (by omega) (by omega)
      have hfb := hfb.tr hfm_v135 (by omega)
      have hf_14_v135 := hmk_v135.2.1 (by decide) (by decide)
      have hf_15_v135 := hmk_v135.2.2.1
      have hf_17_v135 := hmk_v135.2.2.2.2.1
      have hf_21_v135 := hmk_v135.2.2.2.2.2.2.2.2.1
      clear hmk_v135 hfm_v135
      have hw : pw D A s.heap H locs [wdP cs h r g tf ta pf131 na132 ma133 wa cf ca ef ea xf xa] := hw
      have lv135 := Int32.le_toInt v135
      have uv135 := Int32.toInt_lt v135
      exact th_iret (v := v135) S hr rfl hlk hAe hw (⟨pf131, na132, ma133, wa, rfl, (show (pf 11).toInt + 1 ≤ (pf131 11).toInt from by omega), (show (pf131 11).toInt < (tf 6).toInt from by omega), (show (pf 13).toInt + 1 ≤ (pf131 13).toInt from by omega), (show (pf131 13).toInt - (pf 13).toInt ≤ (pf131 11).toInt - (pf 11).toInt from by omega), (show bp ta (pf 11) + 1 ≤ bp ta (pf131 11) from by omega), (show (pf131 12).toInt = (pf 12).toInt from by omega), (show (pf131 24).toInt = (pf 24).toInt from by omega), (show (pf131 25).toInt = (pf 25).toInt from by omega), (show (pf131 26).toInt = (pf 26).toInt from by omega), (show FrB (pf 13).toInt na ma na132 ma133 from hfb), (show FrW (pf 26).toInt wa wa from hfw), (show VlS ta (tf 6).toInt na132 ma133 v135 (pf 13).toInt (pf131 13).toInt (3 * (bp ta (pf131 11) - bp ta (pf 11))) (200 - (pf 12).toInt) from (VlV.le (st_empty (hi := (pf131 13).toInt) (D := 130) ⟨by omega, hf_14_v135, hf_15_v135, ⟨by omega, by omega⟩, hf_21_v135⟩ (by omega) (by omega)) (by omega) (by omega) (by omega) (by omega)))⟩) d_Mpg_statement_45
  · have nc8 : ¬ v5.toInt = (0 : Int) := mt (i_eq (x := v5) (y := 0)).mpr c8
    refine lv_aload_n S.x S.b d_Mpg_statement_9 rfl (lv_at hl 0 rfl) ?_
    refine th_calli (ps0 := [wdP cs h r g tf ta pf na ma wa cf ca ef ea xf xa]) (pr := []) (pcs := [wdP cs h r g tf ta pf na ma wa cf ca ef ea xf xa]) (As := []) (rest := []) (c_mp_block l D cs h r g tf ta cf ca ef ea xf xa pf na ma wa  lv (show 0 ≤ (pf 11).toInt from by omega) (show (pf 11).toInt < (tf 6).toInt from by omega) (show (tf 6).toInt ≤ 2049 from by omega) (show 0 ≤ (pf 12).toInt from by omega) (show (pf 12).toInt ≤ 60 from by omega) (show 0 ≤ (pf 13).toInt from by omega) (show (pf 13).toInt ≤ (pf 11).toInt + 10 from by omega) (show 0 ≤ (pf 26).toInt from by omega) (show (pf 26).toInt ≤ (pf 12).toInt from by omega) (show 61 ≤ (pf 12).toInt + (lv : Int) from by omega) (show lv ≤ 61 from by omega) hlf htk hLT) S hT hw (oX_call (P := (fun A U H => (oN A U H) ∧ (oP A g U H))) (pr := []) (oG_and oG_N oG_P) hw hA ⟨hN, hP⟩) (px_recv hT hw 0 0 rfl rfl rfl) m12_97 m12_94 m12_96 ms_10_9 m1_21 q_Mpg_block ⟨show (8 * lv + 27) + 1 ≤ (8 * lv + 28) from by omega, show 8 + (4 + 11) + (220 * lv + 1240) ≤ (220 * lv + 1280) from by omega⟩ hl.1 rfl (Nat.le_of_ble_eq_true rfl) d_Mpg_statement_10 ⟨Nat.le_of_ble_eq_true rfl, Nat.le_of_ble_eq_true rfl⟩ hne hlk hA hAe (fun o t h => Or.inr h) ?_ (fun v154 p153 H locs hp153 hw => ?_)
    · exact fun p1 H1 locs1 hp hw => by obtain ⟨pq1, pq2, pq3, pq4, rfl, hq1, hq2⟩ := hp; exact ⟨_, ⟨pq1, pq2, pq3, pq4, rfl, hq1, hq2⟩, hw⟩
    obtain ⟨pf149, na150, ma151, wa152, rfl, e155, e156, e157, e158, e159, e160, e161, e162, e163, e164, e165, e166, e167, e168⟩ := hp153
    have e155 : (pf 11).toInt + 1 ≤ (pf149 11).toInt := e155
    have e156 : (pf149 11).toInt < (tf 6).toInt := e156
    have e157 : (pf 13).toInt + 1 ≤ (pf149 13).toInt := e157
    have e158 : (pf149 13).toInt - (pf 13).toInt ≤ (pf149 11).toInt - (pf 11).toInt := e158
    have e159 : bp ta (pf 11) + 1 ≤ bp ta (pf149 11) := e159
    have e160 : (pf149 12).toInt = (pf 12).toInt := e160
    have e161 : (pf149 24).toInt = (pf 24).toInt := e161
    have e162 : (pf149 25).toInt = (pf 25).toInt := e162
    have e163 : (pf149 26).toInt = (pf 26).toInt := e163
    have e164 : FrB (pf 13).toInt na ma na150 ma151 := e164
    have hfb := hfb.tr e164 (by omega)
    have e165 : FrW (pf 26).toInt wa wa152 := e165
    have hfw := hfw.tr e165 (by omega)
    have e166 : VlS ta (tf 6).toInt na150 ma151 v154 (pf 13).toInt (pf149 13).toInt (3 * (bp ta (pf149 11) - bp ta (pf 11))) (200 - (pf 12).toInt) := e166
    have hv_v154 := e166
    have hn_hv_v154 := hv_v154.num fs_ok
    have e167 : bp ta (pf 11) + 2 ≤ bp ta (pf149 11) := e167
    have e168 : BkN na150 v154 := e168
    have hw : pw D A s.heap H locs [wdP cs h r g tf ta pf149 na150 ma151 wa152 cf ca ef ea xf xa] := hw
    have lv154 := Int32.le_toInt v154
    have uv154 := Int32.toInt_lt v154
    exact th_iret (v := v154) S hr rfl hlk hAe hw (⟨pf149, na150, ma151, wa152, rfl, (show (pf 11).toInt + 1 ≤ (pf149 11).toInt from by omega), (show (pf149 11).toInt < (tf 6).toInt from by omega), (show (pf 13).toInt + 1 ≤ (pf149 13).toInt from by omega), (show (pf149 13).toInt - (pf 13).toInt ≤ (pf149 11).toInt - (pf 11).toInt from by omega), (show bp ta (pf 11) + 1 ≤ bp ta (pf149 11) from by omega), (show (pf149 12).toInt = (pf 12).toInt from by omega), (show (pf149 24).toInt = (pf 24).toInt from by omega), (show (pf149 25).toInt = (pf 25).toInt from by omega), (show (pf149 26).toInt = (pf 26).toInt from by omega), (show FrB (pf 13).toInt na ma na150 ma151 from hfb), (show FrW (pf 26).toInt wa wa152 from hfw), (show VlS ta (tf 6).toInt na150 ma151 v154 (pf 13).toInt (pf149 13).toInt (3 * (bp ta (pf149 11) - bp ta (pf 11))) (200 - (pf 12).toInt) from (VlV.le hv_v154 (by omega) (by omega) (by omega) (by omega)))⟩) d_Mpg_statement_13
theorem lvT_all (l : Launch) (D : va_G) (cs : Nat → ClassId) : ∀ lv : Nat, LvT l D cs lv := by
  intro lv
  induction lv with
  | zero => exact lvt_0
  | succ k ih => exact lvt_s (by intro h r g tf ta cf ca ef ea xf xa pf na ma wa g0 g1 g2 g3 g4 g5 g6 g7 g8 g9 g10 hlf htk; exact c_mp_statement l D cs h r g tf ta cf ca ef ea xf xa pf na ma wa k g0 g1 g2 g3 g4 g5 g6 g7 g8 g9 g10 hlf htk ih)
set_option maxHeartbeats 4000000 in
set_option maxRecDepth 100000 in
theorem c_S_block (l : Launch) (D : va_G) (cs : Nat → ClassId) (h : Nat) (r : Nat → Nat) (g : Nat → Nat → Option Nat) (tf : Nat → Int32) (ta : Nat → Nat → Int32) (cf : Nat → Int32) (ca : Nat → Nat → Int32) (ef : Nat → Int32) (ea : Nat → Nat → Int32) (xf : Nat → Int32) (xa : Nat → Nat → Int32) (pf : Nat → Int32) (na : Nat → Nat → Int32) (ma : Nat → Nat → Int32) (wa : Nat → Nat → Int32) (lv : Nat) (g0 : 0 ≤ (pf 11).toInt) (g1 : (pf 11).toInt < (tf 6).toInt) (g2 : (tf 6).toInt ≤ 2049) (g3 : 0 ≤ (pf 12).toInt) (g4 : (pf 12).toInt ≤ 60) (g5 : 0 ≤ (pf 13).toInt) (g6 : (pf 13).toInt ≤ (pf 11).toInt + 10) (g7 : 0 ≤ (pf 26).toInt) (g8 : (pf 26).toInt ≤ (pf 12).toInt) (g9 : 61 ≤ (pf 12).toInt + (lv : Int)) (g10 : lv ≤ 61) (hlf : l.flags = pinnedFlags ++ [noTraceFlag]) (htk : TkI tf ta) : ThI l y_Mpg_block b_Mpg_block 4 (.int) D cs (8 * lv + 27) (220 * lv + 1240) [.ref h] [wdP cs h r g tf ta pf na ma wa cf ca ef ea xf xa] (oX (fun A U H => (oN A U H) ∧ (oP A g U H)) [wdP cs h r g tf ta pf na ma wa cf ca ef ea xf xa]) "java/lang/IllegalArgumentException" (fun v ps => ∃ (pf' : Nat → Int32) (na' : Nat → Nat → Int32) (ma' : Nat → Nat → Int32) (wa' : Nat → Nat → Int32), (ps = [wdP cs h r g tf ta pf' na' ma' wa' cf ca ef ea xf xa]) ∧ ((pf 11).toInt + 1 ≤ (pf' 11).toInt) ∧ ((pf' 11).toInt < (tf 6).toInt) ∧ ((pf 13).toInt + 1 ≤ (pf' 13).toInt) ∧ ((pf' 13).toInt - (pf 13).toInt ≤ (pf' 11).toInt - (pf 11).toInt) ∧ (bp ta (pf 11) + 1 ≤ bp ta (pf' 11)) ∧ ((pf' 12).toInt = (pf 12).toInt) ∧ ((pf' 24).toInt = (pf 24).toInt) ∧ ((pf' 25).toInt = (pf 25).toInt) ∧ ((pf' 26).toInt = (pf 26).toInt) ∧ (FrB (pf 13).toInt na ma na' ma') ∧ (FrW (pf 26).toInt wa wa') ∧ (VlS ta (tf 6).toInt na' ma' v (pf 13).toInt (pf' 13).toInt (3 * (bp ta (pf' 11) - bp ta (pf 11))) (200 - (pf 12).toInt)) ∧ (bp ta (pf 11) + 2 ≤ bp ta (pf' 11)) ∧ (BkN na' v)) (fun ps => ∃ (pf' : Nat → Int32) (na' : Nat → Nat → Int32) (ma' : Nat → Nat → Int32) (wa' : Nat → Nat → Int32), ps = [wdP cs h r g tf ta pf' na' ma' wa' cf ca ef ea xf xa] ∧ 0 ≤ (pf' 11).toInt ∧ (pf' 11).toInt + 1 ≤ (tf 6).toInt) := by
  exact c_mp_block l D cs h r g tf ta cf ca ef ea xf xa pf na ma wa lv g0 g1 g2 g3 g4 g5 g6 g7 g8 g9 g10 hlf htk (lvT_all l D cs lv)
