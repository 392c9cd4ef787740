theorem oz_e4ab96007c {a0 a1 a2 a3 a4 a5 : Int} (h0 : a0 = a1) (h1 : a1 = a2) (h2 : a2 = a3) (h3 : a3 = a4) (h4 : a4 = a5) (h5 : a5 = (0 : Int)) : 0 ≤ a0 := by omega
theorem oz_0a2168968f {a0 a1 a2 a3 a4 a5 a6 : Int} (h0 : a0 = a2) (h1 : 1 ≤ a1) (h2 : a2 = a3) (h3 : a3 = a4) (h4 : a4 = a5) (h5 : a5 = a6) (h6 : a6 = (0 : Int)) : a0 < a1 := by omega
theorem oz_5b7e44d897 {a0 a1 a2 a3 a4 : Int} (h0 : a0 = a1) (h1 : a1 = a2) (h2 : a2 = a3) (h3 : a3 = a4) (h4 : a4 = (0 : Int)) : a0 = 0 := by omega
theorem oz_374831f0eb {a0 a1 a2 a3 : Int} (h0 : a0 = a1) (h1 : a1 = a2) (h2 : a2 = a3) (h3 : a3 = (0 : Int)) : 0 ≤ a0 := by omega
theorem oz_543cafc81a {a0 a1 a2 a3 a4 a5 a6 a7 a8 a9 : Int} (h0 : a1 = a2) (h1 : a0 = a3) (h2 : a2 = a4) (h3 : a3 = a5) (h4 : a4 = a6) (h5 : a5 = a7) (h6 : a6 = a8) (h7 : a7 = (0 : Int)) (h8 : a8 = a9) (h9 : a9 = (0 : Int)) : a0 ≤ a1 + 10 := by omega
theorem oz_c2d323d486 {a0 a1 a2 : Int} (h0 : a0 = a1) (h1 : a1 = a2) (h2 : a2 = (0 : Int)) : a0 = 0 := by omega
theorem oz_e11ceb63a0 {a0 : Int} (h0 : a0 = (-1 : Int)) : -1 ≤ a0 := by omega
theorem oz_ec80d807da {a0 a1 a2 a3 a4 : Int} (h0 : a1 = a2) (h1 : a0 = (-1 : Int)) (h2 : a2 = a3) (h3 : a3 = a4) (h4 : a4 = (0 : Int)) : a0 < a1 := by omega
theorem oz_4fda450e58 {a0 a1 : Int} (h0 : a0 = a1) (h1 : a1 = (0 : Int)) : a0 = 0 := by omega
theorem oz_a26fbca8be {a0 a1 a2 : Int} (h0 : a0 + a1 ≤ a2) (h1 : a2 ≤ 2048) (h2 : 0 ≤ a1) : (3 * a0) ≤ 6200 := by omega
theorem oz_6c566e2c02  : (200 : Int) ≤ 300 := by omega
theorem oz_650fda9e83 {a0 a1 : Int} (h0 : a1 ≤ (0 : Int)) (h1 : 0 ≤ a1) (h2 : a1 = 0 → a0 ≤ 200) : a0 ≤ 200 := by omega
theorem oz_5be592e807 {a0 a1 : Int} (h0 : a0 = a1) (h1 : ¬ a1 ≤ (0 : Int)) : -1 ≤ a0 := by omega
theorem m11_131 : Cond.methodLink "HomeSystemModel$Program" 761 ⟨"HomeSystemModel$Program", "readTokens", "()V"⟩ ∈ AL := AL_11 (List.mem_of_getElem? (i := 131) rfl) rfl
theorem m11_134 : Cond.code ⟨"HomeSystemModel$Program", "readTokens", "()V"⟩ prog_16_method_14_code 4 (Option.none : Option Jvm.ClassFile.FieldType) ∈ AL := AL_11 (List.mem_of_getElem? (i := 134) rfl) rfl
theorem ms_7_13 : Cond.selects "HomeSystemModel$Program" ⟨"HomeSystemModel$Program", "readTokens", "()V"⟩ ⟨"HomeSystemModel$Program", "readTokens", "()V"⟩ ∈ AL := AL_p (q := (⟨"HomeSystemModel$Program", "readTokens", "()V"⟩, 69)) (by unfold lw_privs; exact List.mem_append_right _ (List.mem_append_right _ (List.mem_append_right _ (List.mem_append_right _ (List.mem_append_right _ (List.mem_append_right _ (List.mem_append_left _ (List.mem_of_getElem? (i := 13) rfl))))))))
theorem m11_133 : Cond.instanceMethod ⟨"HomeSystemModel$Program", "readTokens", "()V"⟩ ∈ AL := AL_11 (List.mem_of_getElem? (i := 133) rfl) rfl
theorem m10_21 : Cond.fieldLink "HomeSystemModel$Program" 764 "HomeSystemModel$Program" "where" "I" ∈ AL := AL_10 (List.mem_of_getElem? (i := 21) rfl) rfl
theorem m11_188 : Cond.codeWith ⟨"HomeSystemModel$Program", "isText", "()Z"⟩ prog_16_method_105_code 3 (Option.some FieldType.boolean) [(2, 6, 9, 353)] ∈ AL := AL_11 (List.mem_of_getElem? (i := 188) rfl) rfl
theorem m11_185 : Cond.methodLink "HomeSystemModel$Program" 767 ⟨"HomeSystemModel$Program", "isText", "()Z"⟩ ∈ AL := AL_11 (List.mem_of_getElem? (i := 185) rfl) rfl
theorem m11_187 : Cond.instanceMethod ⟨"HomeSystemModel$Program", "isText", "()Z"⟩ ∈ AL := AL_11 (List.mem_of_getElem? (i := 187) rfl) rfl
theorem ms_8_7 : Cond.selects "HomeSystemModel$Program" ⟨"HomeSystemModel$Program", "isText", "()Z"⟩ ⟨"HomeSystemModel$Program", "isText", "()Z"⟩ ∈ AL := AL_p (q := (⟨"HomeSystemModel$Program", "isText", "()Z"⟩, 69)) (by unfold lw_privs; exact List.mem_append_right _ (List.mem_append_right _ (List.mem_append_right _ (List.mem_append_right _ (List.mem_append_right _ (List.mem_append_right _ (List.mem_append_right _ (List.mem_append_left _ (List.mem_of_getElem? (i := 7) rfl)))))))))
theorem m12_146 : Cond.methodLink "HomeSystemModel$Program" 770 ⟨"HomeSystemModel$Program", "checkText", "()V"⟩ ∈ AL := AL_12 (List.mem_of_getElem? (i := 146) rfl) rfl
theorem m12_149 : Cond.code ⟨"HomeSystemModel$Program", "checkText", "()V"⟩ prog_16_method_104_code 3 (Option.none : Option Jvm.ClassFile.FieldType) ∈ AL := AL_12 (List.mem_of_getElem? (i := 149) rfl) rfl
theorem ms_11_6 : Cond.selects "HomeSystemModel$Program" ⟨"HomeSystemModel$Program", "checkText", "()V"⟩ ⟨"HomeSystemModel$Program", "checkText", "()V"⟩ ∈ AL := AL_p (q := (⟨"HomeSystemModel$Program", "checkText", "()V"⟩, 69)) (by unfold lw_privs; exact List.mem_append_right _ (List.mem_append_right _ (List.mem_append_right _ (List.mem_append_right _ (List.mem_append_right _ (List.mem_append_right _ (List.mem_append_right _ (List.mem_append_right _ (List.mem_append_right _ (List.mem_append_right _ (List.mem_append_left _ (List.mem_of_getElem? (i := 6) rfl))))))))))))
theorem m12_148 : Cond.instanceMethod ⟨"HomeSystemModel$Program", "checkText", "()V"⟩ ∈ AL := AL_12 (List.mem_of_getElem? (i := 148) rfl) rfl
theorem m13_75 : Cond.methodLink "HomeSystemModel$Program" 773 ⟨"HomeSystemModel$Program", "makeAll", "()V"⟩ ∈ AL := AL_13 (List.mem_of_getElem? (i := 75) rfl) rfl
theorem m13_78 : Cond.code ⟨"HomeSystemModel$Program", "makeAll", "()V"⟩ prog_16_method_119_code 5 (Option.none : Option Jvm.ClassFile.FieldType) ∈ AL := AL_13 (List.mem_of_getElem? (i := 78) rfl) rfl
theorem ms_14_0 : Cond.selects "HomeSystemModel$Program" ⟨"HomeSystemModel$Program", "makeAll", "()V"⟩ ⟨"HomeSystemModel$Program", "makeAll", "()V"⟩ ∈ AL := AL_p (q := (⟨"HomeSystemModel$Program", "makeAll", "()V"⟩, 69)) (by unfold lw_privs; exact List.mem_append_right _ (List.mem_append_right _ (List.mem_append_right _ (List.mem_append_right _ (List.mem_append_right _ (List.mem_append_right _ (List.mem_append_right _ (List.mem_append_right _ (List.mem_append_right _ (List.mem_append_right _ (List.mem_append_right _ (List.mem_append_right _ (List.mem_append_right _ (List.mem_append_left _ (List.mem_of_getElem? (i := 0) rfl)))))))))))))))
theorem m13_77 : Cond.instanceMethod ⟨"HomeSystemModel$Program", "makeAll", "()V"⟩ ∈ AL := AL_13 (List.mem_of_getElem? (i := 77) rfl) rfl
theorem m10_68 : Cond.fieldLink "HomeSystemModel$Program" 758 "HomeSystemModel$Program" "sort" "I" ∈ AL := AL_10 (List.mem_of_getElem? (i := 68) rfl) rfl
abbrev b_Mpg_read : ByteArray := prog_16_method_121_code
def y_Mpg_read : MethodName := ⟨"HomeSystemModel$Program", "read", "([BI)I"⟩
theorem d_Mpg_read_0 : decode b_Mpg_read 0 = .ok (.aload_n 0, 1) := by decide +kernel
theorem d_Mpg_read_1 : decode b_Mpg_read 1 = .ok (.iconst 0, 1) := by decide +kernel
theorem d_Mpg_read_2 : decode b_Mpg_read 2 = .ok (.putfield 758, 3) := by decide +kernel
theorem d_Mpg_read_5 : decode b_Mpg_read 5 = .ok (.aload_n 0, 1) := by decide +kernel
theorem d_Mpg_read_6 : decode b_Mpg_read 6 = .ok (.iload_n 2, 1) := by decide +kernel
theorem d_Mpg_read_7 : decode b_Mpg_read 7 = .ok (.putfield 292, 3) := by decide +kernel
theorem d_Mpg_read_10 : decode b_Mpg_read 10 = .ok (.iconst 0, 1) := by decide +kernel
theorem d_Mpg_read_11 : decode b_Mpg_read 11 = .ok (.istore_n 3, 1) := by decide +kernel
theorem d_Mpg_read_12 : decode b_Mpg_read 12 = .ok (.iload_n 3, 1) := by decide +kernel
theorem d_Mpg_read_13 : decode b_Mpg_read 13 = .ok (.iload_n 2, 1) := by decide +kernel
theorem d_Mpg_read_14 : decode b_Mpg_read 14 = .ok (.if_icmp .ge 18, 3) := by decide +kernel
theorem d_Mpg_read_17 : decode b_Mpg_read 17 = .ok (.aload_n 0, 1) := by decide +kernel
theorem d_Mpg_read_18 : decode b_Mpg_read 18 = .ok (.getfield 190, 3) := by decide +kernel
theorem d_Mpg_read_21 : decode b_Mpg_read 21 = .ok (.iload_n 3, 1) := by decide +kernel
theorem d_Mpg_read_22 : decode b_Mpg_read 22 = .ok (.aload_n 1, 1) := by decide +kernel
theorem d_Mpg_read_23 : decode b_Mpg_read 23 = .ok (.iload_n 3, 1) := by decide +kernel
theorem d_Mpg_read_24 : decode b_Mpg_read 24 = .ok (.baload, 1) := by decide +kernel
theorem d_Mpg_read_25 : decode b_Mpg_read 25 = .ok (.bastore, 1) := by decide +kernel
theorem d_Mpg_read_26 : decode b_Mpg_read 26 = .ok (.iinc 3 1, 3) := by decide +kernel
theorem d_Mpg_read_29 : decode b_Mpg_read 29 = .ok (.goto (-17), 3) := by decide +kernel
theorem d_Mpg_read_32 : decode b_Mpg_read 32 = .ok (.aload_n 0, 1) := by decide +kernel
theorem d_Mpg_read_33 : decode b_Mpg_read 33 = .ok (.invokevirtual 761, 3) := by decide +kernel
theorem d_Mpg_read_36 : decode b_Mpg_read 36 = .ok (.aload_n 0, 1) := by decide +kernel
theorem d_Mpg_read_37 : decode b_Mpg_read 37 = .ok (.iconst 0, 1) := by decide +kernel
theorem d_Mpg_read_38 : decode b_Mpg_read 38 = .ok (.putfield 360, 3) := by decide +kernel
theorem d_Mpg_read_41 : decode b_Mpg_read 41 = .ok (.aload_n 0, 1) := by decide +kernel
theorem d_Mpg_read_42 : decode b_Mpg_read 42 = .ok (.iconst 0, 1) := by decide +kernel
theorem d_Mpg_read_43 : decode b_Mpg_read 43 = .ok (.putfield 380, 3) := by decide +kernel
theorem d_Mpg_read_46 : decode b_Mpg_read 46 = .ok (.aload_n 0, 1) := by decide +kernel
theorem d_Mpg_read_47 : decode b_Mpg_read 47 = .ok (.iconst 0, 1) := by decide +kernel
theorem d_Mpg_read_48 : decode b_Mpg_read 48 = .ok (.putfield 390, 3) := by decide +kernel
theorem d_Mpg_read_51 : decode b_Mpg_read 51 = .ok (.aload_n 0, 1) := by decide +kernel
theorem d_Mpg_read_52 : decode b_Mpg_read 52 = .ok (.iconst 0, 1) := by decide +kernel
theorem d_Mpg_read_53 : decode b_Mpg_read 53 = .ok (.putfield 415, 3) := by decide +kernel
theorem d_Mpg_read_56 : decode b_Mpg_read 56 = .ok (.aload_n 0, 1) := by decide +kernel
theorem d_Mpg_read_57 : decode b_Mpg_read 57 = .ok (.iconst (-1), 1) := by decide +kernel
theorem d_Mpg_read_58 : decode b_Mpg_read 58 = .ok (.putfield 500, 3) := by decide +kernel
theorem d_Mpg_read_61 : decode b_Mpg_read 61 = .ok (.aload_n 0, 1) := by decide +kernel
theorem d_Mpg_read_62 : decode b_Mpg_read 62 = .ok (.iconst (-1), 1) := by decide +kernel
theorem d_Mpg_read_63 : decode b_Mpg_read 63 = .ok (.putfield 503, 3) := by decide +kernel
theorem d_Mpg_read_66 : decode b_Mpg_read 66 = .ok (.aload_n 0, 1) := by decide +kernel
theorem d_Mpg_read_67 : decode b_Mpg_read 67 = .ok (.iconst 0, 1) := by decide +kernel
theorem d_Mpg_read_68 : decode b_Mpg_read 68 = .ok (.putfield 522, 3) := by decide +kernel
theorem d_Mpg_read_71 : decode b_Mpg_read 71 = .ok (.aload_n 0, 1) := by decide +kernel
theorem d_Mpg_read_72 : decode b_Mpg_read 72 = .ok (.iconst 0, 1) := by decide +kernel
theorem d_Mpg_read_73 : decode b_Mpg_read 73 = .ok (.putfield 764, 3) := by decide +kernel
theorem d_Mpg_read_76 : decode b_Mpg_read 76 = .ok (.aload_n 0, 1) := by decide +kernel
theorem d_Mpg_read_77 : decode b_Mpg_read 77 = .ok (.invokevirtual 767, 3) := by decide +kernel
theorem d_Mpg_read_80 : decode b_Mpg_read 80 = .ok (.ifCond .ne 20, 3) := by decide +kernel
theorem d_Mpg_read_83 : decode b_Mpg_read 83 = .ok (.aload_n 0, 1) := by decide +kernel
theorem d_Mpg_read_84 : decode b_Mpg_read 84 = .ok (.aload_n 0, 1) := by decide +kernel
theorem d_Mpg_read_85 : decode b_Mpg_read 85 = .ok (.getfield 194, 3) := by decide +kernel
theorem d_Mpg_read_88 : decode b_Mpg_read 88 = .ok (.aload_n 0, 1) := by decide +kernel
theorem d_Mpg_read_89 : decode b_Mpg_read 89 = .ok (.getfield 360, 3) := by decide +kernel
theorem d_Mpg_read_92 : decode b_Mpg_read 92 = .ok (.iaload, 1) := by decide +kernel
theorem d_Mpg_read_93 : decode b_Mpg_read 93 = .ok (.iconst 1, 1) := by decide +kernel
theorem d_Mpg_read_94 : decode b_Mpg_read 94 = .ok (.iadd, 1) := by decide +kernel
theorem d_Mpg_read_95 : decode b_Mpg_read 95 = .ok (.putfield 764, 3) := by decide +kernel
theorem d_Mpg_read_98 : decode b_Mpg_read 98 = .ok (.iconst (-1), 1) := by decide +kernel
theorem d_Mpg_read_99 : decode b_Mpg_read 99 = .ok (.ireturn, 1) := by decide +kernel
theorem d_Mpg_read_100 : decode b_Mpg_read 100 = .ok (.aload_n 0, 1) := by decide +kernel
theorem d_Mpg_read_101 : decode b_Mpg_read 101 = .ok (.invokevirtual 770, 3) := by decide +kernel
theorem d_Mpg_read_104 : decode b_Mpg_read 104 = .ok (.aload_n 0, 1) := by decide +kernel
theorem d_Mpg_read_105 : decode b_Mpg_read 105 = .ok (.getfield 522, 3) := by decide +kernel
theorem d_Mpg_read_108 : decode b_Mpg_read 108 = .ok (.ifCond .le 23, 3) := by decide +kernel
theorem d_Mpg_read_111 : decode b_Mpg_read 111 = .ok (.aload_n 0, 1) := by decide +kernel
theorem d_Mpg_read_112 : decode b_Mpg_read 112 = .ok (.aload_n 0, 1) := by decide +kernel
theorem d_Mpg_read_113 : decode b_Mpg_read 113 = .ok (.getfield 194, 3) := by decide +kernel
theorem d_Mpg_read_116 : decode b_Mpg_read 116 = .ok (.aload_n 0, 1) := by decide +kernel
theorem d_Mpg_read_117 : decode b_Mpg_read 117 = .ok (.getfield 525, 3) := by decide +kernel
theorem d_Mpg_read_120 : decode b_Mpg_read 120 = .ok (.iaload, 1) := by decide +kernel
theorem d_Mpg_read_121 : decode b_Mpg_read 121 = .ok (.iconst 1, 1) := by decide +kernel
theorem d_Mpg_read_122 : decode b_Mpg_read 122 = .ok (.iadd, 1) := by decide +kernel
theorem d_Mpg_read_123 : decode b_Mpg_read 123 = .ok (.putfield 764, 3) := by decide +kernel
theorem d_Mpg_read_126 : decode b_Mpg_read 126 = .ok (.aload_n 0, 1) := by decide +kernel
theorem d_Mpg_read_127 : decode b_Mpg_read 127 = .ok (.getfield 522, 3) := by decide +kernel
theorem d_Mpg_read_130 : decode b_Mpg_read 130 = .ok (.ireturn, 1) := by decide +kernel
theorem d_Mpg_read_131 : decode b_Mpg_read 131 = .ok (.aload_n 0, 1) := by decide +kernel
theorem d_Mpg_read_132 : decode b_Mpg_read 132 = .ok (.invokevirtual 773, 3) := by decide +kernel
theorem d_Mpg_read_135 : decode b_Mpg_read 135 = .ok (.aload_n 0, 1) := by decide +kernel
theorem d_Mpg_read_136 : decode b_Mpg_read 136 = .ok (.iconst 1, 1) := by decide +kernel
theorem d_Mpg_read_137 : decode b_Mpg_read 137 = .ok (.putfield 758, 3) := by decide +kernel
theorem d_Mpg_read_140 : decode b_Mpg_read 140 = .ok (.iconst 0, 1) := by decide +kernel
theorem d_Mpg_read_141 : decode b_Mpg_read 141 = .ok (.ireturn, 1) := by decide +kernel
theorem q_Mpg_read : px_y y_Mpg_read 2 := by unfold px_y; decide +kernel
set_option maxHeartbeats 4000000 in
set_option maxRecDepth 100000 in
theorem c_mp_read (l : Launch) (D : va_G) (cs : Nat → ClassId) (sk : Nat) (st : Nat) (sb : Nat → Int32) (nf : Int) (h : Nat) (r : Nat → Nat) (g : Nat → Nat → Option Nat) (tf : Nat → Int32) (ta : Nat → Nat → Int32) (pf : Nat → Int32) (na : Nat → Nat → Int32) (ma : Nat → Nat → Int32) (wa : Nat → Nat → Int32) (cf : Nat → Int32) (ca : Nat → Nat → Int32) (ef : Nat → Int32) (ea : Nat → Nat → Int32) (xf : Nat → Int32) (xa : Nat → Nat → Int32) (bq : Nat) (bn : Nat) (bb : Nat → Int32) (p1 : Int32)  (g0 : 0 ≤ p1.toInt) (g1 : p1.toInt ≤ 2048) (g2 : p1.toInt ≤ (bn : Int)) (g3 : 0 ≤ (cf 46).toInt) (g4 : (cf 46).toInt ≤ 1) (g5 : 0 ≤ (cf 47).toInt) (g6 : (cf 47).toInt ≤ 1) (hlf : l.flags = pinnedFlags ++ [noTraceFlag]) : MetI l y_Mpg_read b_Mpg_read 4 (.int) D cs 1300 60000 (1) (6) [.ref h, .ref bq, .int p1] [wdP cs h r g tf ta pf na ma wa cf ca ef ea xf xa, [(bq, .inl (cs 1, bn, .inl bb))]] (oX (fun A U H => (oN A U H) ∧ (oP A g U H) ∧ ((vk_R "HomeSystemModel$Program" 688 "main" sk U ∧ oS A sk st 4 sb U H))) [wdP cs h r g tf ta pf na ma wa cf ca ef ea xf xa, [(bq, .inl (cs 1, bn, .inl bb))]]) (fun v ps => ∃ (tf' : Nat → Int32) (ta' : Nat → Nat → Int32) (pf' : Nat → Int32) (na' : Nat → Nat → Int32) (ma' : Nat → Nat → Int32) (wa' : Nat → Nat → Int32) (cf' : Nat → Int32) (ca' : Nat → Nat → Int32) (ef' : Nat → Int32) (ea' : Nat → Nat → Int32) (xf' : Nat → Int32) (xa' : Nat → Nat → Int32), (ps = [wdP cs h r g tf' ta' pf' na' ma' wa' cf' ca' ef' ea' xf' xa', [(bq, .inl (cs 1, bn, .inl bb))]]) ∧ (-1 ≤ v.toInt) ∧ ((cf' 46).toInt = (cf 46).toInt) ∧ ((cf' 47).toInt = (cf 47).toInt) ∧ ((xf' 68).toInt = (xf 68).toInt) ∧ (RdV v.toInt (xf' 66).toInt (PgT tf' cf' ef' ta' na' ma' ca' ea')) ∧ (R_mp_read sb bb p1 tf ta pf na ma wa cf ca ef ea xf xa tf' ta' pf' na' ma' wa' cf' ca' ef' ea' xf' xa' v)) := by
  refine px_enter (by decide) (Nat.le_of_ble_eq_true rfl) ?_
  intro p e s m below meth c A ls hAe S hr hlk hnm hA hT hX hw hl
  have hl : lv_has ls 4 [(0, .ref h), (1, .ref bq), (2, .int p1)] := hl
  have lp1 := Int32.le_toInt p1
  have up1 := Int32.toInt_lt p1
  have cstm1 : ((-1) : Int32).toInt = (-1) := rfl
  have cst0 : (0 : Int32).toInt = 0 := rfl
  have cst1 : (1 : Int32).toInt = 1 := rfl
  have hX : (fun A U H => (oN A U H) ∧ (oP A g U H) ∧ ((vk_R "HomeSystemModel$Program" 688 "main" sk U ∧ oS A sk st 4 sb U H))) A s s.heap := by rw [hAe]; exact hX
  obtain ⟨hN, hP, hMn⟩ := hX
  have hZ := hP.1
  have hF0 := hP.2.1
  have J12 : ∀ (n_12 : Nat) (tf_12 : Nat → Int32) (ta_12 : Nat → Nat → Int32) (pf_12 : Nat → Int32) (na_12 : Nat → Nat → Int32) (ma_12 : Nat → Nat → Int32) (wa_12 : Nat → Nat → Int32) (cf_12 : Nat → Int32) (ca_12 : Nat → Nat → Int32) (ef_12 : Nat → Int32) (ea_12 : Nat → Nat → Int32) (xf_12 : Nat → Int32) (xa_12 : Nat → Nat → Int32) (x12_3 : Int32) (H : Heap) (locs : List Loc) (ls : Array Slot), (0 ≤ x12_3.toInt) → (x12_3.toInt ≤ p1.toInt) → ((tf_12 5).toInt = p1.toInt) → ((cf_12 46).toInt = (cf 46).toInt) → ((cf_12 47).toInt = (cf 47).toInt) → ((xf_12 66).toInt = 0) → ((xf_12 68).toInt = (xf 68).toInt) → (K_mp_read_12 sb bb p1 tf ta pf na ma wa cf ca ef ea xf xa tf_12 ta_12 pf_12 na_12 ma_12 wa_12 cf_12 ca_12 ef_12 ea_12 xf_12 xa_12 x12_3) → p1.toInt - x12_3.toInt < (n_12 : Int) → pw D A s.heap H locs [wdP cs h r g tf_12 ta_12 pf_12 na_12 ma_12 wa_12 cf_12 ca_12 ef_12 ea_12 xf_12 xa_12, [(bq, .inl (cs 1, bn, .inl bb))]] → lv_has ls 4 [(0, .ref h), (1, .ref bq), (2, .int p1), (3, .int x12_3)] → W p l e { frames := 1300, cells := 1, slots := 6, locals := 60000 } s m [.ref h, .ref bq, .int p1].toArray below meth c H locs 0 0 (MQ below (va_Qi (fun v ps => ∃ (tf' : Nat → Int32) (ta' : Nat → Nat → Int32) (pf' : Nat → Int32) (na' : Nat → Nat → Int32) (ma' : Nat → Nat → Int32) (wa' : Nat → Nat → Int32) (cf' : Nat → Int32) (ca' : Nat → Nat → Int32) (ef' : Nat → Int32) (ea' : Nat → Nat → Int32) (xf' : Nat → Int32) (xa' : Nat → Nat → Int32), (ps = [wdP cs h r g tf' ta' pf' na' ma' wa' cf' ca' ef' ea' xf' xa', [(bq, .inl (cs 1, bn, .inl bb))]]) ∧ (-1 ≤ v.toInt) ∧ ((cf' 46).toInt = (cf 46).toInt) ∧ ((cf' 47).toInt = (cf 47).toInt) ∧ ((xf' 68).toInt = (xf 68).toInt) ∧ (RdV v.toInt (xf' 66).toInt (PgT tf' cf' ef' ta' na' ma' ca' ea')) ∧ (R_mp_read sb bb p1 tf ta pf na ma wa cf ca ef ea xf xa tf' ta' pf' na' ma' wa' cf' ca' ef' ea' xf' xa' v)) (pc_B D (va_A ([wdP cs h r g tf ta pf na ma wa cf ca ef ea xf xa, [(bq, .inl (cs 1, bn, .inl bb))]] : List va_W).flatten s.heap.size)) (va_A ([wdP cs h r g tf ta pf na ma wa cf ca ef ea xf xa, [(bq, .inl (cs 1, bn, .inl bb))]] : List va_W).flatten s.heap.size)) [.ref h, .ref bq, .int p1].toArray s 1 6 A) (F0 m 12 ls []) := by
    intro  n_12
    induction n_12 with
    | zero =>
      intro tf_12 ta_12 pf_12 na_12 ma_12 wa_12 cf_12 ca_12 ef_12 ea_12 xf_12 xa_12 x12_3 H locs ls k12_0 k12_1 k12_2 k12_3 k12_4 k12_5 k12_6 k12_7 hm hw hl
      have lx12_3 := Int32.le_toInt x12_3
      have ux12_3 := Int32.toInt_lt x12_3
      exact absurd hm (by omega)
    | succ n_12 ih12 =>
      intro tf_12 ta_12 pf_12 na_12 ma_12 wa_12 cf_12 ca_12 ef_12 ea_12 xf_12 xa_12 x12_3 H locs ls k12_0 k12_1 k12_2 k12_3 k12_4 k12_5 k12_6 k12_7 hm hw hl
      have lx12_3 := Int32.le_toInt x12_3
      have ux12_3 := Int32.toInt_lt x12_3
      refine lv_iload_n S.x S.b d_Mpg_read_12 rfl (lv_at hl 3 rfl) ?_
      refine lv_iload_n S.x S.b d_Mpg_read_13 rfl (lv_at hl 2 rfl) ?_
      refine lv_icmp_ge (tgt := 32) S.x S.b d_Mpg_read_14 (by decide) (fun c1 => ?_) (fun c1 => ?_)
      · have nc1 : p1.toInt ≤ x12_3.toInt := (i_le (x := p1) (y := x12_3)).mp c1
        refine lv_aload_n S.x S.b d_Mpg_read_32 rfl (lv_at hl 0 rfl) ?_
        have hw : pw D A s.heap _ _ [[(bq, .inl (cs 1, bn, .inl bb))], wdP cs h r g tf_12 ta_12 pf_12 na_12 ma_12 wa_12 cf_12 ca_12 ef_12 ea_12 xf_12 xa_12] := hw.sub [1, 0] rfl rfl
        refine px_callv (pr := [[(bq, .inl (cs 1, bn, .inl bb))]]) (px_runV (As := []) (rest := []) S (c_mp_readTokens l D cs h r g pf_12 na_12 ma_12 wa_12 cf_12 ca_12 ef_12 ea_12 xf_12 xa_12 tf_12 ta_12   (show 0 ≤ (tf_12 5).toInt from by first | exact oz_f3ebed1ad0 k12_2 g0 | omega) (show (tf_12 5).toInt ≤ 2048 from by first | exact oz_508e595d19 k12_2 g1 | omega) _) hT (pr := [[(bq, .inl (cs 1, bn, .inl bb))]]) (pcs := [wdP cs h r g tf_12 ta_12 pf_12 na_12 ma_12 wa_12 cf_12 ca_12 ef_12 ea_12 xf_12 xa_12]) hw (oX_call (P := (fun A U H => (oP A g U H))) (pr := [[(bq, .inl (cs 1, bn, .inl bb))]]) oG_P hw hA hP) (px_recv hT hw 1 0 rfl rfl rfl) m11_134 m11_131 m11_133 ms_7_13 m1_21 q_Mpg_readTokens ⟨Nat.le_of_ble_eq_true rfl, Nat.le_of_ble_eq_true rfl⟩ hl.1 rfl (Nat.le_of_ble_eq_true rfl) d_Mpg_read_33 ⟨Nat.le_of_ble_eq_true rfl, Nat.le_of_ble_eq_true rfl⟩) hw hA (fun p7 H locs hp7 hw => ?_)
        obtain ⟨tf5, ta6, rfl, e9, e10, e11⟩ := hp7
        have e9 : (tf5 5).toInt = (tf_12 5).toInt := e9
        have e10 : TkI tf5 ta6 := e10
        have htk := e10
        have e11 : R_mp_readTokens tf_12 ta_12 tf5 ta6 := e11
        have hw : pw D A s.heap H locs [[(bq, .inl (cs 1, bn, .inl bb))], wdP cs h r g tf5 ta6 pf_12 na_12 ma_12 wa_12 cf_12 ca_12 ef_12 ea_12 xf_12 xa_12] := hw
        refine lv_aload_n S.x S.b d_Mpg_read_36 rfl (lv_at hl 0 rfl) ?_
        refine lv_iconst (v := 0) S.x S.b d_Mpg_read_37 (by decide) ?_
        refine px_put S k_Mpg hT hw 1 0 11 rfl rfl (by decide) m9_235 rfl rfl rfl (Nat.le_of_ble_eq_true rfl) d_Mpg_read_38 (w' := wdP cs h r g tf5 ta6 (upd pf_12 11 0) na_12 ma_12 wa_12 cf_12 ca_12 ef_12 ea_12 xf_12 xa_12) (ps' := [[(bq, .inl (cs 1, bn, .inl bb))], wdP cs h r g tf5 ta6 (upd pf_12 11 0) na_12 ma_12 wa_12 cf_12 ca_12 ef_12 ea_12 xf_12 xa_12]) rfl rfl (fun H locs hw => ?_)
        obtain ⟨pf12, hu_pf12⟩ : ∃ y : Nat → Int32, y = upd pf_12 11 (0 : Int32) := ⟨_, rfl⟩; have hw : pw D A s.heap _ _ [[(bq, .inl (cs 1, bn, .inl bb))], wdP cs h r g tf5 ta6 pf12 na_12 ma_12 wa_12 cf_12 ca_12 ef_12 ea_12 xf_12 xa_12] := (by rw [hu_pf12]; exact hw); have hn11_pf12 : (pf12 11).toInt = (0 : Int) := (by rw [hu_pf12, pk_us]; rfl); have hn12_pf12 : (pf12 12).toInt = (pf_12 12).toInt := (by rw [hu_pf12, pk_un (by decide)]); have hn13_pf12 : (pf12 13).toInt = (pf_12 13).toInt := (by rw [hu_pf12, pk_un (by decide)]); have hn24_pf12 : (pf12 24).toInt = (pf_12 24).toInt := (by rw [hu_pf12, pk_un (by decide)]); have hn25_pf12 : (pf12 25).toInt = (pf_12 25).toInt := (by rw [hu_pf12, pk_un (by decide)]); have hn26_pf12 : (pf12 26).toInt = (pf_12 26).toInt := (by rw [hu_pf12, pk_un (by decide)])
        refine lv_aload_n S.x S.b d_Mpg_read_41 rfl (lv_at hl 0 rfl) ?_
        refine lv_iconst (v := 0) S.x S.b d_Mpg_read_42 (by decide) ?_
        refine px_put S k_Mpg hT hw 1 0 12 rfl rfl (by decide) m9_236 rfl rfl rfl (Nat.le_of_ble_eq_true rfl) d_Mpg_read_43 (w' := wdP cs h r g tf5 ta6 (upd pf12 12 0) na_12 ma_12 wa_12 cf_12 ca_12 ef_12 ea_12 xf_12 xa_12) (ps' := [[(bq, .inl (cs 1, bn, .inl bb))], wdP cs h r g tf5 ta6 (upd pf12 12 0) na_12 ma_12 wa_12 cf_12 ca_12 ef_12 ea_12 xf_12 xa_12]) rfl rfl (fun H locs hw => ?_)
        obtain ⟨pf13, hu_pf13⟩ : ∃ y : Nat → Int32, y = upd pf12 12 (0 : Int32) := ⟨_, rfl⟩; have hw : pw D A s.heap _ _ [[(bq, .inl (cs 1, bn, .inl bb))], wdP cs h r g tf5 ta6 pf13 na_12 ma_12 wa_12 cf_12 ca_12 ef_12 ea_12 xf_12 xa_12] := (by rw [hu_pf13]; exact hw); have hn11_pf13 : (pf13 11).toInt = (pf12 11).toInt := (by rw [hu_pf13, pk_un (by decide)]); have hn12_pf13 : (pf13 12).toInt = (0 : Int) := (by rw [hu_pf13, pk_us]; rfl); have hn13_pf13 : (pf13 13).toInt = (pf12 13).toInt := (by rw [hu_pf13, pk_un (by decide)]); have hn24_pf13 : (pf13 24).toInt = (pf12 24).toInt := (by rw [hu_pf13, pk_un (by decide)]); have hn25_pf13 : (pf13 25).toInt = (pf12 25).toInt := (by rw [hu_pf13, pk_un (by decide)]); have hn26_pf13 : (pf13 26).toInt = (pf12 26).toInt := (by rw [hu_pf13, pk_un (by decide)])
        refine lv_aload_n S.x S.b d_Mpg_read_46 rfl (lv_at hl 0 rfl) ?_
        refine lv_iconst (v := 0) S.x S.b d_Mpg_read_47 (by decide) ?_
        refine px_put S k_Mpg hT hw 1 0 13 rfl rfl (by decide) m9_237 rfl rfl rfl (Nat.le_of_ble_eq_true rfl) d_Mpg_read_48 (w' := wdP cs h r g tf5 ta6 (upd pf13 13 0) na_12 ma_12 wa_12 cf_12 ca_12 ef_12 ea_12 xf_12 xa_12) (ps' := [[(bq, .inl (cs 1, bn, .inl bb))], wdP cs h r g tf5 ta6 (upd pf13 13 0) na_12 ma_12 wa_12 cf_12 ca_12 ef_12 ea_12 xf_12 xa_12]) rfl rfl (fun H locs hw => ?_)
        obtain ⟨pf14, hu_pf14⟩ : ∃ y : Nat → Int32, y = upd pf13 13 (0 : Int32) := ⟨_, rfl⟩; have hw : pw D A s.heap _ _ [[(bq, .inl (cs 1, bn, .inl bb))], wdP cs h r g tf5 ta6 pf14 na_12 ma_12 wa_12 cf_12 ca_12 ef_12 ea_12 xf_12 xa_12] := (by rw [hu_pf14]; exact hw); have hn11_pf14 : (pf14 11).toInt = (pf13 11).toInt := (by rw [hu_pf14, pk_un (by decide)]); have hn12_pf14 : (pf14 12).toInt = (pf13 12).toInt := (by rw [hu_pf14, pk_un (by decide)]); have hn13_pf14 : (pf14 13).toInt = (0 : Int) := (by rw [hu_pf14, pk_us]; rfl); have hn24_pf14 : (pf14 24).toInt = (pf13 24).toInt := (by rw [hu_pf14, pk_un (by decide)]); have hn25_pf14 : (pf14 25).toInt = (pf13 25).toInt := (by rw [hu_pf14, pk_un (by decide)]); have hn26_pf14 : (pf14 26).toInt = (pf13 26).toInt := (by rw [hu_pf14, pk_un (by decide)])
        refine lv_aload_n S.x S.b d_Mpg_read_51 rfl (lv_at hl 0 rfl) ?_
        refine lv_iconst (v := 0) S.x S.b d_Mpg_read_52 (by decide) ?_
        refine px_put S k_Mpg hT hw 1 0 26 rfl rfl (by decide) m10_14 rfl rfl rfl (Nat.le_of_ble_eq_true rfl) d_Mpg_read_53 (w' := wdP cs h r g tf5 ta6 (upd pf14 26 0) na_12 ma_12 wa_12 cf_12 ca_12 ef_12 ea_12 xf_12 xa_12) (ps' := [[(bq, .inl (cs 1, bn, .inl bb))], wdP cs h r g tf5 ta6 (upd pf14 26 0) na_12 ma_12 wa_12 cf_12 ca_12 ef_12 ea_12 xf_12 xa_12]) rfl rfl (fun H locs hw => ?_)
        obtain ⟨pf15, hu_pf15⟩ : ∃ y : Nat → Int32, y = upd pf14 26 (0 : Int32) := ⟨_, rfl⟩; have hw : pw D A s.heap _ _ [[(bq, .inl (cs 1, bn, .inl bb))], wdP cs h r g tf5 ta6 pf15 na_12 ma_12 wa_12 cf_12 ca_12 ef_12 ea_12 xf_12 xa_12] := (by rw [hu_pf15]; exact hw); have hn11_pf15 : (pf15 11).toInt = (pf14 11).toInt := (by rw [hu_pf15, pk_un (by decide)]); have hn12_pf15 : (pf15 12).toInt = (pf14 12).toInt := (by rw [hu_pf15, pk_un (by decide)]); have hn13_pf15 : (pf15 13).toInt = (pf14 13).toInt := (by rw [hu_pf15, pk_un (by decide)]); have hn24_pf15 : (pf15 24).toInt = (pf14 24).toInt := (by rw [hu_pf15, pk_un (by decide)]); have hn25_pf15 : (pf15 25).toInt = (pf14 25).toInt := (by rw [hu_pf15, pk_un (by decide)]); have hn26_pf15 : (pf15 26).toInt = (0 : Int) := (by rw [hu_pf15, pk_us]; rfl)
        refine lv_aload_n S.x S.b d_Mpg_read_56 rfl (lv_at hl 0 rfl) ?_
        refine lv_iconst (v := (-1)) S.x S.b d_Mpg_read_57 (by decide) ?_
        refine px_put S k_Mpg hT hw 1 0 24 rfl rfl (by decide) m10_12 rfl rfl rfl (Nat.le_of_ble_eq_true rfl) d_Mpg_read_58 (w' := wdP cs h r g tf5 ta6 (upd pf15 24 (-1)) na_12 ma_12 wa_12 cf_12 ca_12 ef_12 ea_12 xf_12 xa_12) (ps' := [[(bq, .inl (cs 1, bn, .inl bb))], wdP cs h r g tf5 ta6 (upd pf15 24 (-1)) na_12 ma_12 wa_12 cf_12 ca_12 ef_12 ea_12 xf_12 xa_12]) rfl rfl (fun H locs hw => ?_)
        obtain ⟨pf16, hu_pf16⟩ : ∃ y : Nat → Int32, y = upd pf15 24 (-1 : Int32) := ⟨_, rfl⟩; have hw : pw D A s.heap _ _ [[(bq, .inl (cs 1, bn, .inl bb))], wdP cs h r g tf5 ta6 pf16 na_12 ma_12 wa_12 cf_12 ca_12 ef_12 ea_12 xf_12 xa_12] := (by rw [hu_pf16]; exact hw); have hn11_pf16 : (pf16 11).toInt = (pf15 11).toInt := (by rw [hu_pf16, pk_un (by decide)]); have hn12_pf16 : (pf16 12).toInt = (pf15 12).toInt := (by rw [hu_pf16, pk_un (by decide)]); have hn13_pf16 : (pf16 13).toInt = (pf15 13).toInt := (by rw [hu_pf16, pk_un (by decide)]); have hn24_pf16 : (pf16 24).toInt = (-1 : Int) := (by rw [hu_pf16, pk_us]; rfl); have hn25_pf16 : (pf16 25).toInt = (pf15 25).toInt := (by rw [hu_pf16, pk_un (by decide)]); have hn26_pf16 : (pf16 26).toInt = (pf15 26).toInt := (by rw [hu_pf16, pk_un (by decide)])
        refine lv_aload_n S.x S.b d_Mpg_read_61 rfl (lv_at hl 0 rfl) ?_
        refine lv_iconst (v := (-1)) S.x S.b d_Mpg_read_62 (by decide) ?_
        refine px_put S k_Mpg hT hw 1 0 25 rfl rfl (by decide) m10_13 rfl rfl rfl (Nat.le_of_ble_eq_true rfl) d_Mpg_read_63 (w' := wdP cs h r g tf5 ta6 (upd pf16 25 (-1)) na_12 ma_12 wa_12 cf_12 ca_12 ef_12 ea_12 xf_12 xa_12) (ps' := [[(bq, .inl (cs 1, bn, .inl bb))], wdP cs h r g tf5 ta6 (upd pf16 25 (-1)) na_12 ma_12 wa_12 cf_12 ca_12 ef_12 ea_12 xf_12 xa_12]) rfl rfl (fun H locs hw => ?_)
        obtain ⟨pf17, hu_pf17⟩ : ∃ y : Nat → Int32, y = upd pf16 25 (-1 : Int32) := ⟨_, rfl⟩; have hw : pw D A s.heap _ _ [[(bq, .inl (cs 1, bn, .inl bb))], wdP cs h r g tf5 ta6 pf17 na_12 ma_12 wa_12 cf_12 ca_12 ef_12 ea_12 xf_12 xa_12] := (by rw [hu_pf17]; exact hw); have hn11_pf17 : (pf17 11).toInt = (pf16 11).toInt := (by rw [hu_pf17, pk_un (by decide)]); have hn12_pf17 : (pf17 12).toInt = (pf16 12).toInt := (by rw [hu_pf17, pk_un (by decide)]); have hn13_pf17 : (pf17 13).toInt = (pf16 13).toInt := (by rw [hu_pf17, pk_un (by decide)]); have hn24_pf17 : (pf17 24).toInt = (pf16 24).toInt := (by rw [hu_pf17, pk_un (by decide)]); have hn25_pf17 : (pf17 25).toInt = (-1 : Int) := (by rw [hu_pf17, pk_us]; rfl); have hn26_pf17 : (pf17 26).toInt = (pf16 26).toInt := (by rw [hu_pf17, pk_un (by decide)])
        refine lv_aload_n S.x S.b d_Mpg_read_66 rfl (lv_at hl 0 rfl) ?_
        refine lv_iconst (v := 0) S.x S.b d_Mpg_read_67 (by decide) ?_
        refine px_put S k_Mpg hT hw 1 0 30 rfl rfl (by decide) m10_18 rfl rfl rfl (Nat.le_of_ble_eq_true rfl) d_Mpg_read_68 (w' := wdP cs h r g tf5 ta6 pf17 na_12 ma_12 wa_12 (upd cf_12 30 0) ca_12 ef_12 ea_12 xf_12 xa_12) (ps' := [[(bq, .inl (cs 1, bn, .inl bb))], wdP cs h r g tf5 ta6 pf17 na_12 ma_12 wa_12 (upd cf_12 30 0) ca_12 ef_12 ea_12 xf_12 xa_12]) rfl rfl (fun H locs hw => ?_)
        obtain ⟨cf18, hu_cf18⟩ : ∃ y : Nat → Int32, y = upd cf_12 30 (0 : Int32) := ⟨_, rfl⟩; have hw : pw D A s.heap _ _ [[(bq, .inl (cs 1, bn, .inl bb))], wdP cs h r g tf5 ta6 pf17 na_12 ma_12 wa_12 cf18 ca_12 ef_12 ea_12 xf_12 xa_12] := (by rw [hu_cf18]; exact hw); have hn30_cf18 : (cf18 30).toInt = (0 : Int) := (by rw [hu_cf18, pk_us]; rfl); have hn31_cf18 : (cf18 31).toInt = (cf_12 31).toInt := (by rw [hu_cf18, pk_un (by decide)]); have hn32_cf18 : (cf18 32).toInt = (cf_12 32).toInt := (by rw [hu_cf18, pk_un (by decide)]); have hn33_cf18 : (cf18 33).toInt = (cf_12 33).toInt := (by rw [hu_cf18, pk_un (by decide)]); have hn38_cf18 : (cf18 38).toInt = (cf_12 38).toInt := (by rw [hu_cf18, pk_un (by decide)]); have hn46_cf18 : (cf18 46).toInt = (cf_12 46).toInt := (by rw [hu_cf18, pk_un (by decide)]); have hn47_cf18 : (cf18 47).toInt = (cf_12 47).toInt := (by rw [hu_cf18, pk_un (by decide)]); have hn48_cf18 : (cf18 48).toInt = (cf_12 48).toInt := (by rw [hu_cf18, pk_un (by decide)]); have hn55_cf18 : (cf18 55).toInt = (cf_12 55).toInt := (by rw [hu_cf18, pk_un (by decide)])
        refine lv_aload_n S.x S.b d_Mpg_read_71 rfl (lv_at hl 0 rfl) ?_
        refine lv_iconst (v := 0) S.x S.b d_Mpg_read_72 (by decide) ?_
        refine px_put S k_Mpg hT hw 1 0 32 rfl rfl (by decide) m10_21 rfl rfl rfl (Nat.le_of_ble_eq_true rfl) d_Mpg_read_73 (w' := wdP cs h r g tf5 ta6 pf17 na_12 ma_12 wa_12 (upd cf18 32 0) ca_12 ef_12 ea_12 xf_12 xa_12) (ps' := [[(bq, .inl (cs 1, bn, .inl bb))], wdP cs h r g tf5 ta6 pf17 na_12 ma_12 wa_12 (upd cf18 32 0) ca_12 ef_12 ea_12 xf_12 xa_12]) rfl rfl (fun H locs hw => ?_)
        obtain ⟨cf19, hu_cf19⟩ : ∃ y : Nat → Int32, y = upd cf18 32 (0 : Int32) := ⟨_, rfl⟩; have hw : pw D A s.heap _ _ [[(bq, .inl (cs 1, bn, .inl bb))], wdP cs h r g tf5 ta6 pf17 na_12 ma_12 wa_12 cf19 ca_12 ef_12 ea_12 xf_12 xa_12] := (by rw [hu_cf19]; exact hw); have hn30_cf19 : (cf19 30).toInt = (cf18 30).toInt := (by rw [hu_cf19, pk_un (by decide)]); have hn31_cf19 : (cf19 31).toInt = (cf18 31).toInt := (by rw [hu_cf19, pk_un (by decide)]); have hn32_cf19 : (cf19 32).toInt = (0 : Int) := (by rw [hu_cf19, pk_us]; rfl); have hn33_cf19 : (cf19 33).toInt = (cf18 33).toInt := (by rw [hu_cf19, pk_un (by decide)]); have hn38_cf19 : (cf19 38).toInt = (cf18 38).toInt := (by rw [hu_cf19, pk_un (by decide)]); have hn46_cf19 : (cf19 46).toInt = (cf18 46).toInt := (by rw [hu_cf19, pk_un (by decide)]); have hn47_cf19 : (cf19 47).toInt = (cf18 47).toInt := (by rw [hu_cf19, pk_un (by decide)]); have hn48_cf19 : (cf19 48).toInt = (cf18 48).toInt := (by rw [hu_cf19, pk_un (by decide)]); have hn55_cf19 : (cf19 55).toInt = (cf18 55).toInt := (by rw [hu_cf19, pk_un (by decide)])
        refine lv_aload_n S.x S.b d_Mpg_read_76 rfl (lv_at hl 0 rfl) ?_
        have hk1 := htk.2.1
        have hbp := tk_b htk (x := pf17 11) (by omega) (by omega)
        have hfs : FsI (tf5 6).toInt (pf17 13).toInt na_12 := fsi_0 (by omega)
        have hzg : RzG ta6 (tf5 6).toInt na_12 ma_12 (pf17 24) (pf17 25) 0 (pf17 13).toInt 0 200 := Or.inl ⟨by omega, by omega, by omega⟩
        refine px_calli (pr := [[(bq, .inl (cs 1, bn, .inl bb))]]) (ph_runV (As := []) (rest := []) S (c_mp_isText l D cs h r g tf5 ta6 cf19 ca_12 ef_12 ea_12 xf_12 xa_12 pf17 na_12 ma_12 wa_12   (show 0 ≤ (pf17 11).toInt from by first | exact oz_e4ab96007c hn11_pf17 hn11_pf16 hn11_pf15 hn11_pf14 hn11_pf13 hn11_pf12 | omega) (show (pf17 11).toInt < (tf5 6).toInt from by first | exact oz_0a2168968f hn11_pf17 hk1 hn11_pf16 hn11_pf15 hn11_pf14 hn11_pf13 hn11_pf12 | omega) (show (tf5 6).toInt ≤ 2049 from by omega) (show (pf17 12).toInt = 0 from by first | exact oz_5b7e44d897 hn12_pf17 hn12_pf16 hn12_pf15 hn12_pf14 hn12_pf13 | omega) (show 0 ≤ (pf17 13).toInt from by first | exact oz_374831f0eb hn13_pf17 hn13_pf16 hn13_pf15 hn13_pf14 | omega) (show (pf17 13).toInt ≤ (pf17 11).toInt + 10 from by first | exact oz_543cafc81a hn11_pf17 hn13_pf17 hn11_pf16 hn13_pf16 hn11_pf15 hn13_pf15 hn11_pf14 hn13_pf14 hn11_pf13 hn11_pf12 | omega) (show (pf17 26).toInt = 0 from by first | exact oz_c2d323d486 hn26_pf17 hn26_pf16 hn26_pf15 | omega) (show -1 ≤ (pf17 25).toInt from by first | exact oz_e11ceb63a0 hn25_pf17 | omega) (show (pf17 25).toInt < (pf17 13).toInt from by first | exact oz_ec80d807da hn13_pf17 hn25_pf17 hn13_pf16 hn13_pf15 hn13_pf14 | omega) hlf htk (FsI.le (N' := (pf17 13).toInt) hfs (by omega)) (RzV.le (rz_eq hzg (by omega) (by omega)) (by omega) (by omega) (by omega) (by omega)) _) hT (pr := [[(bq, .inl (cs 1, bn, .inl bb))]]) (pcs := [wdP cs h r g tf5 ta6 pf17 na_12 ma_12 wa_12 cf19 ca_12 ef_12 ea_12 xf_12 xa_12]) hw (oX_call (P := (fun A U H => (oN A U H) ∧ (oP A g U H))) (pr := [[(bq, .inl (cs 1, bn, .inl bb))]]) (oG_and oG_N oG_P) hw hA ⟨hN, hP⟩) (px_recv hT hw 1 0 rfl rfl rfl) m11_188 m11_185 m11_187 ms_8_7 m1_21 q_Mpg_isText ⟨Nat.le_of_ble_eq_true rfl, Nat.le_of_ble_eq_true rfl⟩ hl.1 rfl (Nat.le_of_ble_eq_true rfl) d_Mpg_read_77 ⟨Nat.le_of_ble_eq_true rfl, Nat.le_of_ble_eq_true rfl⟩) hw hA (fun v9 p9 H locs hp9 hw => ?_)
        rcases hp9 with ⟨rfl, pf9, na9, ma9, wa9, rfl, q9_0, q9_1, q9_2, q9_3, q9_4, q9_5, q9_6, q9_7, q9_8, q9_9, q9_10⟩ | ⟨rfl, pf9, na9, ma9, wa9, rfl, hq1, hq2⟩
        ·
          have hw : pw D A s.heap H locs [[(bq, .inl (cs 1, bn, .inl bb))], wdP cs h r g tf5 ta6 pf9 na9 ma9 wa9 cf19 ca_12 ef_12 ea_12 xf_12 xa_12] := hw
          have q9_0 : (pf17 11).toInt ≤ (pf9 11).toInt := q9_0
          have q9_1 : (pf9 11).toInt < (tf5 6).toInt := q9_1
          have q9_2 : (pf17 13).toInt ≤ (pf9 13).toInt := q9_2
          have q9_3 : (pf9 13).toInt ≤ (pf9 11).toInt + 10 := q9_3
          have q9_4 : (pf9 12).toInt = 0 := q9_4
          have q9_5 : (pf9 26).toInt = 0 := q9_5
          have q9_6 : -1 ≤ (pf9 25).toInt := q9_6
          have q9_7 : (pf9 25).toInt < (pf9 13).toInt := q9_7
          have q9_8 : RzG ta6 (tf5 6).toInt na9 ma9 (pf9 24) (pf9 25) 0 (pf9 13).toInt (3 * bp ta6 (pf9 11)) 200 := q9_8
          have q9_9 : FsI (tf5 6).toInt (pf9 13).toInt na9 := q9_9
          have q9_10 : R_mp_whole ta6 pf17 na_12 ma_12 wa_12 pf9 na9 ma9 wa9 0 := q9_10
          have hfs : FsI (tf5 6).toInt (pf9 13).toInt na9 := q9_9
          have hzg := q9_8
          have hb9 := tk_b htk (x := pf9 11) (by omega) (by omega)
          refine lv_if_ne (tgt := 100) S.x S.b d_Mpg_read_80 (by decide) (fun c29 => ?_) (fun c29 => ?_)
          ·
            refine lv_aload_n S.x S.b d_Mpg_read_100 rfl (lv_at hl 0 rfl) ?_
            have hrc : RvC ta6 (tf5 6).toInt na9 ma9 200 0 (pf9 13).toInt (3 * bp ta6 (pf9 11)) (pf9 24) := rvc_mk hzg (by omega) (by omega); have hwr : WrV cf19 (tf5 6).toInt := ⟨by omega, fun q9 => absurd q9 (by omega)⟩
            refine px_callv (pr := [[(bq, .inl (cs 1, bn, .inl bb))]]) (px_runV (As := []) (rest := []) S (c_mp_checkText l D cs sk st sb 200 (3 * bp ta6 (pf9 11)) h r g tf5 ta6 pf9 na9 wa9 ef_12 ea_12 xf_12 xa_12 ma9 cf19 ca_12   (show 0 ≤ (pf9 13).toInt from by first | exact oz_1a40fcd478 q9_7 q9_6 | omega) (show (pf9 13).toInt ≤ 2100 from by omega) (show 1 ≤ (tf5 6).toInt from by first | exact hk1 | omega) (show (tf5 6).toInt ≤ 2049 from by omega) (show (cf19 30).toInt = 0 from by first | exact oz_4fda450e58 hn30_cf19 hn30_cf18 | omega) (show 0 ≤ (cf19 46).toInt from by first | exact oz_11e71ee49a hn46_cf19 hn46_cf18 k12_3 g3 | omega) (show (cf19 46).toInt ≤ 1 from by first | exact oz_ce6628c031 hn46_cf19 hn46_cf18 k12_3 g4 | omega) (show 0 ≤ (cf19 47).toInt from by first | exact oz_11e71ee49a hn47_cf19 hn47_cf18 k12_4 g5 | omega) (show (cf19 47).toInt ≤ 1 from by first | exact oz_ce6628c031 hn47_cf19 hn47_cf18 k12_4 g6 | omega) (show (3 * bp ta6 (pf9 11)) ≤ 6200 from by first | exact oz_a26fbca8be hb9.2.2.1 hbp.2.2.2 hb9.2.1 | omega) (show (200 : Int) ≤ 300 from by first | exact oz_6c566e2c02 | omega) htk (FsI.le (N' := (pf9 13).toInt) hfs (by omega)) hwr hrc _) hT (pr := [[(bq, .inl (cs 1, bn, .inl bb))]]) (pcs := [wdP cs h r g tf5 ta6 pf9 na9 ma9 wa9 cf19 ca_12 ef_12 ea_12 xf_12 xa_12]) hw (oX_call (P := (fun A U H => (oP A g U H) ∧ ((vk_R "HomeSystemModel$Program" 688 "main" sk U ∧ oS A sk st 4 sb U H)))) (pr := [[(bq, .inl (cs 1, bn, .inl bb))]]) (oG_and oG_P (oG_and oG_L oG_S)) hw hA ⟨hP, hMn⟩) (px_recv hT hw 1 0 rfl rfl rfl) m12_149 m12_146 m12_148 ms_11_6 m1_21 q_Mpg_checkText ⟨Nat.le_of_ble_eq_true rfl, Nat.le_of_ble_eq_true rfl⟩ hl.1 rfl (Nat.le_of_ble_eq_true rfl) d_Mpg_read_101 ⟨Nat.le_of_ble_eq_true rfl, Nat.le_of_ble_eq_true rfl⟩) hw hA (fun p36 H locs hp36 hw => ?_)
            obtain ⟨ma33, cf34, ca35, rfl, e38, e39, e40, e41, e42, e43, e44, e45, e46, e47, e48, e49, e50, e51, e52, e53, e54, e55⟩ := hp36
            have e38 : WrV cf34 (tf5 6).toInt := e38
            have hwr := e38
            have e39 : (cf34 46).toInt = (cf19 46).toInt := e39
            have e40 : (cf34 47).toInt = (cf19 47).toInt := e40
            have e41 : 0 ≤ (cf34 38).toInt := e41
            have e42 : (cf34 38).toInt ≤ 260 := e42
            have e43 : 0 ≤ (cf34 48).toInt := e43
            have e44 : (cf34 48).toInt ≤ 1090 := e44
            have e45 : 0 ≤ (cf34 55).toInt := e45
            have e46 : (cf34 55).toInt ≤ 4 * (cf34 41).toInt := e46
            have e47 : (cf34 30).toInt = 0 → (cf34 41).toInt ≤ 8192 := e47
            have e48 : (cf34 30).toInt = 0 → (cf34 38).toInt ≤ 200 := e48
            have e49 : FnT (tf5 6).toInt na9 ca35 (cf34 38).toInt := e49
            have hft := e49
            have e50 : FnP na9 ca35 (cf34 38).toInt := e50
            have hfp := e50
            have e51 : FqZ na9 ca35 (cf34 38).toInt (pf9 24) := e51
            have hfq := e51
            have e52 : Ann na9 ma9 ma33 := e52
            have hab := e52
            have e53 : TxS ca35 (cf34 48).toInt (cf34 55).toInt := e53
            have htxs := e53
            have e54 : ZTx cf34 ta6 ca35 na9 ma9 ma33 (tf5 6).toInt (tf5 5).toInt (cf34 38).toInt (cf34 48).toInt sb 200 (pf9 13).toInt (pf9 24) := e54
            have hztx := e54
            have e55 : R_mp_checkText sb 200 tf5 ta6 pf9 na9 ma9 cf19 ca_12 ma33 cf34 ca35 := e55
            have hw : pw D A s.heap H locs [[(bq, .inl (cs 1, bn, .inl bb))], wdP cs h r g tf5 ta6 pf9 na9 ma33 wa9 cf34 ca35 ef_12 ea_12 xf_12 xa_12] := hw
            refine lv_aload_n S.x S.b d_Mpg_read_104 rfl (lv_at hl 0 rfl) ?_
            refine px_get S k_Mpg hT hw 1 0 30 (v := .int (cf34 30)) rfl rfl rfl (by decide) m10_18 d_Mpg_read_105 ?_
            refine lv_if_le (tgt := 131) S.x S.b d_Mpg_read_108 (by decide) (fun c56 => ?_) (fun c56 => ?_)
            · have nc56 : (cf34 30).toInt ≤ (0 : Int) := (i_le (x := (cf34 30)) (y := 0)).mp c56
              refine lv_aload_n S.x S.b d_Mpg_read_131 rfl (lv_at hl 0 rfl) ?_
              have hw30 := hwr.1; have htr := hztx (by omega); obtain ⟨X9, hxx⟩ := tx_x htr.1; obtain ⟨wf9, hfw, hrd⟩ := fw_ex hrc hfq htr.2.1 (by omega); have hk1 := htk.2.1
              refine px_callv (pr := [[(bq, .inl (cs 1, bn, .inl bb))]]) (px_runV (As := []) (rest := []) S (c_mp_makeAll l D cs sk st sb ma9 (cf34 48).toInt (cf34 38).toInt 200 (3 * bp ta6 (pf9 11)) X9 wf9 h r g tf5 ta6 pf9 na9 wa9 cf34 ca35 xf_12 xa_12 ma33 ef_12 ea_12   (show 0 ≤ (tf5 5).toInt from by first | exact oz_3e80f65ba7 hbp.2.2.1 hbp.1 hbp.2.1 | omega) (show (tf5 5).toInt ≤ 2048 from by first | exact hbp.2.2.2 | omega) (show 0 ≤ (pf9 13).toInt from by first | exact oz_1a40fcd478 q9_7 q9_6 | omega) (show (pf9 13).toInt ≤ 2100 from by omega) (show (tf5 6).toInt ≤ 2049 from by omega) (show (cf34 38).toInt = (cf34 38).toInt from rfl) (show 0 ≤ (cf34 38).toInt from by first | exact e41 | omega) (show (cf34 38).toInt ≤ 200 from by first | exact oz_650fda9e83 nc56 hw30 e48 | omega) (show (3 * bp ta6 (pf9 11)) ≤ 6200 from by first | exact oz_a26fbca8be hb9.2.2.1 hbp.2.2.2 hb9.2.1 | omega) htk (FnT.eq hft (by omega)) hfp hab hxx htr hrd hfw _) hT (pr := [[(bq, .inl (cs 1, bn, .inl bb))]]) (pcs := [wdP cs h r g tf5 ta6 pf9 na9 ma33 wa9 cf34 ca35 ef_12 ea_12 xf_12 xa_12]) hw (oX_call (P := (fun A U H => (oP A g U H) ∧ ((vk_R "HomeSystemModel$Program" 688 "main" sk U ∧ oS A sk st 4 sb U H)))) (pr := [[(bq, .inl (cs 1, bn, .inl bb))]]) (oG_and oG_P (oG_and oG_L oG_S)) hw hA ⟨hP, hMn⟩) (px_recv hT hw 1 0 rfl rfl rfl) m13_78 m13_75 m13_77 ms_14_0 m1_21 q_Mpg_makeAll ⟨Nat.le_of_ble_eq_true rfl, Nat.le_of_ble_eq_true rfl⟩ hl.1 rfl (Nat.le_of_ble_eq_true rfl) d_Mpg_read_132 ⟨Nat.le_of_ble_eq_true rfl, Nat.le_of_ble_eq_true rfl⟩) hw hA (fun p64 H locs hp64 hw => ?_)
              obtain ⟨ma61, ef62, ea63, rfl, e66, e67, e68, e69, e70⟩ := hp64
              have e66 : 0 ≤ (ef62 60).toInt := e66
              have e67 : (ef62 60).toInt ≤ 6300 := e67
              have e68 : Kc na9 ma33 ma61 := e68
              have hkc9 := e68
              have e69 : PgK X9 (ea63 61) (ea63 62) (cf34 38).toInt (ef62 60).toInt := e69
              have hpg9 := e69
              have e70 : PaK X9.L (ea63 63) (cf34 38).toInt := e70
              have hpa9 := e70
              have hw : pw D A s.heap H locs [[(bq, .inl (cs 1, bn, .inl bb))], wdP cs h r g tf5 ta6 pf9 na9 ma61 wa9 cf34 ca35 ef62 ea63 xf_12 xa_12] := hw
              refine lv_aload_n S.x S.b d_Mpg_read_135 rfl (lv_at hl 0 rfl) ?_
              refine lv_iconst (v := 1) S.x S.b d_Mpg_read_136 (by decide) ?_
              refine px_put S k_Mpg hT hw 1 0 66 rfl rfl (by decide) m10_68 rfl rfl rfl (Nat.le_of_ble_eq_true rfl) d_Mpg_read_137 (w' := wdP cs h r g tf5 ta6 pf9 na9 ma61 wa9 cf34 ca35 ef62 ea63 (upd xf_12 66 1) xa_12) (ps' := [[(bq, .inl (cs 1, bn, .inl bb))], wdP cs h r g tf5 ta6 pf9 na9 ma61 wa9 cf34 ca35 ef62 ea63 (upd xf_12 66 1) xa_12]) rfl rfl (fun H locs hw => ?_)
              obtain ⟨xf71, hu_xf71⟩ : ∃ y : Nat → Int32, y = upd xf_12 66 (1 : Int32) := ⟨_, rfl⟩; have hw : pw D A s.heap _ _ [[(bq, .inl (cs 1, bn, .inl bb))], wdP cs h r g tf5 ta6 pf9 na9 ma61 wa9 cf34 ca35 ef62 ea63 xf71 xa_12] := (by rw [hu_xf71]; exact hw); have hn66_xf71 : (xf71 66).toInt = (1 : Int) := (by rw [hu_xf71, pk_us]; rfl); have hn68_xf71 : (xf71 68).toInt = (xf_12 68).toInt := (by rw [hu_xf71, pk_un (by decide)])
              refine lv_iconst (v := 0) S.x S.b d_Mpg_read_140 (by decide) ?_
              have hw : pw D A s.heap _ _ [wdP cs h r g tf5 ta6 pf9 na9 ma61 wa9 cf34 ca35 ef62 ea63 xf71 xa_12, [(bq, .inl (cs 1, bn, .inl bb))]] := hw.sub [1, 0] rfl rfl
              exact px_iret (v := 0) S hr rfl hlk hAe hw (Nat.le_of_ble_eq_true rfl) (Nat.le_of_ble_eq_true rfl) (⟨tf5, ta6, pf9, na9, ma61, wa9, cf34, ca35, ef62, ea63, xf71, xa_12, rfl, (show -1 ≤ (0 : Int) from by first | exact oz_247129bdec | omega), (show (cf34 46).toInt = (cf 46).toInt from by first | exact oz_ff3084e3c1 k12_3 e39 hn46_cf18 hn46_cf19 | omega), (show (cf34 47).toInt = (cf 47).toInt from by first | exact oz_ff3084e3c1 k12_4 e40 hn47_cf18 hn47_cf19 | omega), (show (xf71 68).toInt = (xf 68).toInt from by first | exact oz_1687f4cc65 k12_6 hn68_xf71 | omega), (show RdV (0 : Int) (xf71 66).toInt (PgT tf5 cf34 ef62 ta6 na9 ma61 ca35 ea63) from (Or.inl ⟨rfl, by omega, ma9, ma33, X9, 200, hab, hkc9, hxx, hpg9, hpa9, htxs, hft, hfp, by omega⟩)), (show R_mp_read sb bb p1 tf ta pf na ma wa cf ca ef ea xf xa tf5 ta6 pf9 na9 ma61 wa9 cf34 ca35 ef62 ea63 xf71 xa_12 (0 : Int32) from (k12_7 _ _ _ _ _ _ _ _ _ _ _ _ _ 1 (Or.inr (Or.inl ⟨rfl, x12_3, rfl, rfl, rfl, rfl, rfl, Or.inl ⟨nc1, tf5, ta6, e11, pf12, hu_pf12, pf13, hu_pf13, pf14, hu_pf14, pf15, hu_pf15, pf16, hu_pf16, pf17, hu_pf17, cf18, hu_cf18, cf19, hu_cf19, Or.inr ⟨pf9, na9, ma9, wa9, q9_10, ma33, cf34, ca35, e55, Or.inl ⟨nc56, hw30, ma61, ef62, ea63, xf71, hu_xf71, rfl, rfl, rfl, rfl, rfl, rfl, rfl, rfl, rfl, rfl, rfl, rfl, rfl⟩⟩⟩⟩))))⟩) d_Mpg_read_141
            · have nc56 : ¬ (cf34 30).toInt ≤ (0 : Int) := mt (i_le (x := (cf34 30)) (y := 0)).mpr c56
              refine lv_aload_n S.x S.b d_Mpg_read_111 rfl (lv_at hl 0 rfl) ?_
              have hw31 := hwr.2 (by omega)
              refine lv_aload_n S.x S.b d_Mpg_read_112 rfl (lv_at hl 0 rfl) ?_
              refine px_get S k_Mpg hT hw 1 0 7 (v := .ref (r 7)) rfl rfl rfl (by decide) m9_231 d_Mpg_read_113 ?_
              refine lv_aload_n S.x S.b d_Mpg_read_116 rfl (lv_at hl 0 rfl) ?_
              refine px_get S k_Mpg hT hw 1 0 31 (v := .int (cf34 31)) rfl rfl rfl (by decide) m10_19 d_Mpg_read_117 ?_
              refine px_iald S hT hw 1 6 (n := 2060) (f := (ta6 7)) rfl gp_7 (x := (cf34 31)) (vp_in_iff.mpr (by constructor <;> omega)) d_Mpg_read_120 ?_
              refine lv_topi (fun z72 ez72 => ?_)
              have lz72 := Int32.le_toInt z72
              have uz72 := Int32.toInt_lt z72
              have rz72 : z72.toInt = bp ta6 (cf34 31) := (by rw [ez72]; rfl); have rbz72 := tk_b htk (x := (cf34 31)) (by omega) (by omega)
              refine lv_iconst (v := 1) S.x S.b d_Mpg_read_121 (by decide) ?_
              refine lv_iadd S.x S.b d_Mpg_read_122 ?_
              refine lv_topi (fun z73 ez73 => ?_)
              have tz73 : z73.toInt = (z72.toInt + (1 : Int) + 2147483648) % 4294967296 - 2147483648 := by rw [ez73]; exact i_add z72 1
              have lz73 := Int32.le_toInt z73
              have uz73 := Int32.toInt_lt z73
              try replace tz73 : z73.toInt = z72.toInt + (1 : Int) := by omega
              refine px_put S k_Mpg hT hw 1 0 32 rfl rfl (by decide) m10_21 rfl rfl rfl (Nat.le_of_ble_eq_true rfl) d_Mpg_read_123 (w' := wdP cs h r g tf5 ta6 pf9 na9 ma33 wa9 (upd cf34 32 z73) ca35 ef_12 ea_12 xf_12 xa_12) (ps' := [[(bq, .inl (cs 1, bn, .inl bb))], wdP cs h r g tf5 ta6 pf9 na9 ma33 wa9 (upd cf34 32 z73) ca35 ef_12 ea_12 xf_12 xa_12]) rfl rfl (fun H locs hw => ?_)
              obtain ⟨cf74, hu_cf74⟩ : ∃ y : Nat → Int32, y = upd cf34 32 z73 := ⟨_, rfl⟩; have hw : pw D A s.heap _ _ [[(bq, .inl (cs 1, bn, .inl bb))], wdP cs h r g tf5 ta6 pf9 na9 ma33 wa9 cf74 ca35 ef_12 ea_12 xf_12 xa_12] := (by rw [hu_cf74]; exact hw); have hn30_cf74 : (cf74 30).toInt = (cf34 30).toInt := (by rw [hu_cf74, pk_un (by decide)]); have hn31_cf74 : (cf74 31).toInt = (cf34 31).toInt := (by rw [hu_cf74, pk_un (by decide)]); have hn32_cf74 : (cf74 32).toInt = z73.toInt := (by rw [hu_cf74, pk_us]); have hn33_cf74 : (cf74 33).toInt = (cf34 33).toInt := (by rw [hu_cf74, pk_un (by decide)]); have hn38_cf74 : (cf74 38).toInt = (cf34 38).toInt := (by rw [hu_cf74, pk_un (by decide)]); have hn46_cf74 : (cf74 46).toInt = (cf34 46).toInt := (by rw [hu_cf74, pk_un (by decide)]); have hn47_cf74 : (cf74 47).toInt = (cf34 47).toInt := (by rw [hu_cf74, pk_un (by decide)]); have hn48_cf74 : (cf74 48).toInt = (cf34 48).toInt := (by rw [hu_cf74, pk_un (by decide)]); have hn55_cf74 : (cf74 55).toInt = (cf34 55).toInt := (by rw [hu_cf74, pk_un (by decide)])
              refine lv_aload_n S.x S.b d_Mpg_read_126 rfl (lv_at hl 0 rfl) ?_
              refine px_get S k_Mpg hT hw 1 0 30 (v := .int (cf74 30)) rfl rfl rfl (by decide) m10_18 d_Mpg_read_127 ?_
              have hw : pw D A s.heap _ _ [wdP cs h r g tf5 ta6 pf9 na9 ma33 wa9 cf74 ca35 ef_12 ea_12 xf_12 xa_12, [(bq, .inl (cs 1, bn, .inl bb))]] := hw.sub [1, 0] rfl rfl
              exact px_iret (v := (cf74 30)) S hr rfl hlk hAe hw (Nat.le_of_ble_eq_true rfl) (Nat.le_of_ble_eq_true rfl) (⟨tf5, ta6, pf9, na9, ma33, wa9, cf74, ca35, ef_12, ea_12, xf_12, xa_12, rfl, (show -1 ≤ (cf74 30).toInt from by first | exact oz_5be592e807 hn30_cf74 nc56 | omega), (show (cf74 46).toInt = (cf 46).toInt from by first | exact oz_0867352dd7 k12_3 hn46_cf74 hn46_cf18 e39 hn46_cf19 | omega), (show (cf74 47).toInt = (cf 47).toInt from by first | exact oz_0867352dd7 k12_4 hn47_cf74 hn47_cf18 e40 hn47_cf19 | omega), (show (xf_12 68).toInt = (xf 68).toInt from by first | exact k12_6 | omega), (show RdV (cf74 30).toInt (xf_12 66).toInt (PgT tf5 cf74 ef_12 ta6 na9 ma33 ca35 ea_12) from (Or.inr ⟨by omega, by omega⟩)), (show R_mp_read sb bb p1 tf ta pf na ma wa cf ca ef ea xf xa tf5 ta6 pf9 na9 ma33 wa9 cf74 ca35 ef_12 ea_12 xf_12 xa_12 (cf74 30) from (k12_7 _ _ _ _ _ _ _ _ _ _ _ _ _ 1 (Or.inr (Or.inl ⟨rfl, x12_3, rfl, rfl, rfl, rfl, rfl, Or.inl ⟨nc1, tf5, ta6, e11, pf12, hu_pf12, pf13, hu_pf13, pf14, hu_pf14, pf15, hu_pf15, pf16, hu_pf16, pf17, hu_pf17, cf18, hu_cf18, cf19, hu_cf19, Or.inr ⟨pf9, na9, ma9, wa9, q9_10, ma33, cf34, ca35, e55, Or.inr ⟨nc56, z72, ez72, z73, ez73, cf74, hu_cf74, rfl, rfl, rfl, rfl, rfl, rfl, rfl, rfl, rfl, rfl, rfl, rfl, rfl⟩⟩⟩⟩))))⟩) d_Mpg_read_130
          · exact absurd c29 (by decide)
        ·
          have hw : pw D A s.heap H locs [[(bq, .inl (cs 1, bn, .inl bb))], wdP cs h r g tf5 ta6 pf9 na9 ma9 wa9 cf19 ca_12 ef_12 ea_12 xf_12 xa_12] := hw
          refine lv_if_ne (tgt := 100) S.x S.b d_Mpg_read_80 (by decide) (fun c75 => ?_) (fun c75 => ?_)
          · exact absurd c75 (by decide)
          ·
            refine lv_aload_n S.x S.b d_Mpg_read_83 rfl (lv_at hl 0 rfl) ?_
            refine lv_aload_n S.x S.b d_Mpg_read_84 rfl (lv_at hl 0 rfl) ?_
            refine px_get S k_Mpg hT hw 1 0 7 (v := .ref (r 7)) rfl rfl rfl (by decide) m9_231 d_Mpg_read_85 ?_
            refine lv_aload_n S.x S.b d_Mpg_read_88 rfl (lv_at hl 0 rfl) ?_
            refine px_get S k_Mpg hT hw 1 0 11 (v := .int (pf9 11)) rfl rfl rfl (by decide) m9_235 d_Mpg_read_89 ?_
            refine px_iald S hT hw 1 6 (n := 2060) (f := (ta6 7)) rfl gp_7 (x := (pf9 11)) (vp_in_iff.mpr (by constructor <;> omega)) d_Mpg_read_92 ?_
            refine lv_topi (fun z76 ez76 => ?_)
            have lz76 := Int32.le_toInt z76
            have uz76 := Int32.toInt_lt z76
            have rz76 : z76.toInt = bp ta6 (pf9 11) := (by rw [ez76]; rfl); have rbz76 := tk_b htk (x := (pf9 11)) (by omega) (by omega)
            refine lv_iconst (v := 1) S.x S.b d_Mpg_read_93 (by decide) ?_
            refine lv_iadd S.x S.b d_Mpg_read_94 ?_
            refine lv_topi (fun z77 ez77 => ?_)
            have tz77 : z77.toInt = (z76.toInt + (1 : Int) + 2147483648) % 4294967296 - 2147483648 := by rw [ez77]; exact i_add z76 1
            have lz77 := Int32.le_toInt z77
            have uz77 := Int32.toInt_lt z77
            try replace tz77 : z77.toInt = z76.toInt + (1 : Int) := by omega
            refine px_put S k_Mpg hT hw 1 0 32 rfl rfl (by decide) m10_21 rfl rfl rfl (Nat.le_of_ble_eq_true rfl) d_Mpg_read_95 (w' := wdP cs h r g tf5 ta6 pf9 na9 ma9 wa9 (upd cf19 32 z77) ca_12 ef_12 ea_12 xf_12 xa_12) (ps' := [[(bq, .inl (cs 1, bn, .inl bb))], wdP cs h r g tf5 ta6 pf9 na9 ma9 wa9 (upd cf19 32 z77) ca_12 ef_12 ea_12 xf_12 xa_12]) rfl rfl (fun H locs hw => ?_)
            obtain ⟨cf78, hu_cf78⟩ : ∃ y : Nat → Int32, y = upd cf19 32 z77 := ⟨_, rfl⟩; have hw : pw D A s.heap _ _ [[(bq, .inl (cs 1, bn, .inl bb))], wdP cs h r g tf5 ta6 pf9 na9 ma9 wa9 cf78 ca_12 ef_12 ea_12 xf_12 xa_12] := (by rw [hu_cf78]; exact hw); have hn30_cf78 : (cf78 30).toInt = (cf19 30).toInt := (by rw [hu_cf78, pk_un (by decide)]); have hn31_cf78 : (cf78 31).toInt = (cf19 31).toInt := (by rw [hu_cf78, pk_un (by decide)]); have hn32_cf78 : (cf78 32).toInt = z77.toInt := (by rw [hu_cf78, pk_us]); have hn33_cf78 : (cf78 33).toInt = (cf19 33).toInt := (by rw [hu_cf78, pk_un (by decide)]); have hn38_cf78 : (cf78 38).toInt = (cf19 38).toInt := (by rw [hu_cf78, pk_un (by decide)]); have hn46_cf78 : (cf78 46).toInt = (cf19 46).toInt := (by rw [hu_cf78, pk_un (by decide)]); have hn47_cf78 : (cf78 47).toInt = (cf19 47).toInt := (by rw [hu_cf78, pk_un (by decide)]); have hn48_cf78 : (cf78 48).toInt = (cf19 48).toInt := (by rw [hu_cf78, pk_un (by decide)]); have hn55_cf78 : (cf78 55).toInt = (cf19 55).toInt := (by rw [hu_cf78, pk_un (by decide)])
            refine lv_iconst (v := (-1)) S.x S.b d_Mpg_read_98 (by decide) ?_
            have hw : pw D A s.heap _ _ [wdP cs h r g tf5 ta6 pf9 na9 ma9 wa9 cf78 ca_12 ef_12 ea_12 xf_12 xa_12, [(bq, .inl (cs 1, bn, .inl bb))]] := hw.sub [1, 0] rfl rfl
            exact px_iret (v := (-1)) S hr rfl hlk hAe hw (Nat.le_of_ble_eq_true rfl) (Nat.le_of_ble_eq_true rfl) (⟨tf5, ta6, pf9, na9, ma9, wa9, cf78, ca_12, ef_12, ea_12, xf_12, xa_12, rfl, (show -1 ≤ (-1 : Int) from by first | exact oz_268d846349 | omega), (show (cf78 46).toInt = (cf 46).toInt from by first | exact oz_ff3084e3c1 k12_3 hn46_cf78 hn46_cf18 hn46_cf19 | omega), (show (cf78 47).toInt = (cf 47).toInt from by first | exact oz_ff3084e3c1 k12_4 hn47_cf78 hn47_cf18 hn47_cf19 | omega), (show (xf_12 68).toInt = (xf 68).toInt from by first | exact k12_6 | omega), (show RdV (-1 : Int) (xf_12 66).toInt (PgT tf5 cf78 ef_12 ta6 na9 ma9 ca_12 ea_12) from (Or.inr ⟨by omega, by omega⟩)), (show R_mp_read sb bb p1 tf ta pf na ma wa cf ca ef ea xf xa tf5 ta6 pf9 na9 ma9 wa9 cf78 ca_12 ef_12 ea_12 xf_12 xa_12 (-1 : Int32) from (k12_7 _ _ _ _ _ _ _ _ _ _ _ _ _ 1 (Or.inr (Or.inl ⟨rfl, x12_3, rfl, rfl, rfl, rfl, rfl, Or.inl ⟨nc1, tf5, ta6, e11, pf12, hu_pf12, pf13, hu_pf13, pf14, hu_pf14, pf15, hu_pf15, pf16, hu_pf16, pf17, hu_pf17, cf18, hu_cf18, cf19, hu_cf19, Or.inl ⟨pf9, na9, ma9, wa9, hq2.2, z76, ez76, z77, ez77, cf78, hu_cf78, rfl, rfl, rfl, rfl, rfl, rfl, rfl, rfl, rfl, rfl, rfl, rfl, rfl⟩⟩⟩))))⟩) d_Mpg_read_99
      · have nc1 : ¬ p1.toInt ≤ x12_3.toInt := mt (i_le (x := p1) (y := x12_3)).mpr c1
        refine lv_aload_n S.x S.b d_Mpg_read_17 rfl (lv_at hl 0 rfl) ?_
        refine px_get S k_Mpg hT hw 0 0 4 (v := .ref (r 4)) rfl rfl rfl (by decide) m9_228 d_Mpg_read_18 ?_
        refine lv_iload_n S.x S.b d_Mpg_read_21 rfl (lv_at hl 3 rfl) ?_
        refine lv_aload_n S.x S.b d_Mpg_read_22 rfl (lv_at hl 1 rfl) ?_
        refine lv_iload_n S.x S.b d_Mpg_read_23 rfl (lv_at hl 3 rfl) ?_
        refine px_bald S hT hw 1 0 (n := bn) (f := bb) rfl rfl (x := x12_3) (vp_in_iff.mpr (by constructor <;> omega)) d_Mpg_read_24 ?_
        refine lv_topi (fun z79 ez79 => ?_)
        have lz79 := Int32.le_toInt z79
        have uz79 := Int32.toInt_lt z79
        refine px_bast S hT hw 0 5 (n := 2048) (f := (ta_12 4)) (x := x12_3) (y := z79) rfl gp_4 (vp_in_iff.mpr (by constructor <;> omega)) d_Mpg_read_25 (w' := wdP cs h r g tf_12 (va_up ta_12 4 (upd (ta_12 4) x12_3.toNatClampNeg (vp_nar .byte z79))) pf_12 na_12 ma_12 wa_12 cf_12 ca_12 ef_12 ea_12 xf_12 xa_12) (ps' := [wdP cs h r g tf_12 (va_up ta_12 4 (upd (ta_12 4) x12_3.toNatClampNeg (vp_nar .byte z79))) pf_12 na_12 ma_12 wa_12 cf_12 ca_12 ef_12 ea_12 xf_12 xa_12, [(bq, .inl (cs 1, bn, .inl bb))]]) sp_4 rfl (fun H locs hw => ?_)
        obtain ⟨z80, ez80⟩ : ∃ y : Int32, y = x12_3 + 1 := ⟨_, rfl⟩
        have tz80 : z80.toInt = (x12_3.toInt + 1 + 2147483648) % 4294967296 - 2147483648 := by rw [ez80]; exact i_add x12_3 1
        have lz80 := Int32.le_toInt z80
        have uz80 := Int32.toInt_lt z80
        try replace tz80 : z80.toInt = x12_3.toInt + 1 := by omega
        refine lv_iinc (v := z80) (lv' := [(3, .int z80), (0, .ref h), (1, .ref bq), (2, .int p1)]) S.x S.b d_Mpg_read_26 hl (k := 3) rfl (by rw [ez80]; rfl) (by decide) rfl (fun ls hl => ?_)
        refine lv_goto (tgt := 12) S.x S.b d_Mpg_read_29 (by decide) ?_
        exact ih12 tf_12 (va_up ta_12 4 (upd (ta_12 4) x12_3.toNatClampNeg (vp_nar .byte z79))) pf_12 na_12 ma_12 wa_12 cf_12 ca_12 ef_12 ea_12 xf_12 xa_12 z80 _ _ ls (show 0 ≤ z80.toInt from by first | exact oz_ae613611c0 tz80 k12_0 | omega) (show z80.toInt ≤ p1.toInt from by first | exact oz_b1314744c8 nc1 tz80 | omega) (show (tf_12 5).toInt = p1.toInt from by first | exact k12_2 | omega) (show (cf_12 46).toInt = (cf 46).toInt from by first | exact k12_3 | omega) (show (cf_12 47).toInt = (cf 47).toInt from by first | exact k12_4 | omega) (show (xf_12 66).toInt = 0 from by first | exact k12_5 | omega) (show (xf_12 68).toInt = (xf 68).toInt from by first | exact k12_6 | omega) (show K_mp_read_12 sb bb p1 tf ta pf na ma wa cf ca ef ea xf xa tf_12 (va_up ta_12 4 (upd (ta_12 4) x12_3.toNatClampNeg (vp_nar .byte z79))) pf_12 na_12 ma_12 wa_12 cf_12 ca_12 ef_12 ea_12 xf_12 xa_12 z80 from (fun y_f0 y_f1 y_f2 y_f3 y_f4 y_f5 y_f6 y_f7 y_f8 y_f9 y_f10 y_f11 y_v k hE => k12_7 y_f0 y_f1 y_f2 y_f3 y_f4 y_f5 y_f6 y_f7 y_f8 y_f9 y_f10 y_f11 y_v (k + 1) (Or.inr (Or.inl ⟨rfl, x12_3, rfl, rfl, rfl, rfl, rfl, Or.inr ⟨nc1, z79, ez79, z80, ez80, hE⟩⟩)))) (show p1.toInt - z80.toInt < (n_12 : Int) from by first | exact oz_654393c63a hm tz80 | omega) hw (lv_sub hl [1, 2, 3, 0] rfl)
  refine lv_aload_n S.x S.b d_Mpg_read_0 rfl (lv_at hl 0 rfl) ?_
  refine lv_iconst (v := 0) S.x S.b d_Mpg_read_1 (by decide) ?_
  refine px_put S k_Mpg hT hw 0 0 66 rfl rfl (by decide) m10_68 rfl rfl rfl (Nat.le_of_ble_eq_true rfl) d_Mpg_read_2 (w' := wdP cs h r g tf ta pf na ma wa cf ca ef ea (upd xf 66 0) xa) (ps' := [wdP cs h r g tf ta pf na ma wa cf ca ef ea (upd xf 66 0) xa, [(bq, .inl (cs 1, bn, .inl bb))]]) rfl rfl (fun H locs hw => ?_)
  obtain ⟨xf81, hu_xf81⟩ : ∃ y : Nat → Int32, y = upd xf 66 (0 : Int32) := ⟨_, rfl⟩; have hw : pw D A s.heap _ _ [wdP cs h r g tf ta pf na ma wa cf ca ef ea xf81 xa, [(bq, .inl (cs 1, bn, .inl bb))]] := (by rw [hu_xf81]; exact hw); have hn66_xf81 : (xf81 66).toInt = (0 : Int) := (by rw [hu_xf81, pk_us]; rfl); have hn68_xf81 : (xf81 68).toInt = (xf 68).toInt := (by rw [hu_xf81, pk_un (by decide)])
  refine lv_aload_n S.x S.b d_Mpg_read_5 rfl (lv_at hl 0 rfl) ?_
  refine lv_iload_n S.x S.b d_Mpg_read_6 rfl (lv_at hl 2 rfl) ?_
  refine px_put S k_Mpg hT hw 0 0 5 rfl rfl (by decide) m9_229 rfl rfl rfl (Nat.le_of_ble_eq_true rfl) d_Mpg_read_7 (w' := wdP cs h r g (upd tf 5 p1) ta pf na ma wa cf ca ef ea xf81 xa) (ps' := [wdP cs h r g (upd tf 5 p1) ta pf na ma wa cf ca ef ea xf81 xa, [(bq, .inl (cs 1, bn, .inl bb))]]) rfl rfl (fun H locs hw => ?_)
  obtain ⟨tf82, hu_tf82⟩ : ∃ y : Nat → Int32, y = upd tf 5 p1 := ⟨_, rfl⟩; have hw : pw D A s.heap _ _ [wdP cs h r g tf82 ta pf na ma wa cf ca ef ea xf81 xa, [(bq, .inl (cs 1, bn, .inl bb))]] := (by rw [hu_tf82]; exact hw); have hn5_tf82 : (tf82 5).toInt = p1.toInt := (by rw [hu_tf82, pk_us]); have hn6_tf82 : (tf82 6).toInt = (tf 6).toInt := (by rw [hu_tf82, pk_un (by decide)])
  refine lv_iconst (v := 0) S.x S.b d_Mpg_read_10 (by decide) ?_
  refine lv_istore_n (lv' := [(3, .int 0), (0, .ref h), (1, .ref bq), (2, .int p1)]) S.x S.b d_Mpg_read_11 rfl hl (by decide) rfl (fun ls hl => ?_)
  exact J12 ((p1.toInt - (0 : Int)).toNat + 1) tf82 ta pf na ma wa cf ca ef ea xf81 xa (0 : Int32) _ _ ls (show 0 ≤ (0 : Int) from by first | exact oz_5a341f00aa | omega) (show (0 : Int) ≤ p1.toInt from by first | exact oz_50c21e157e g0 | omega) (show (tf82 5).toInt = p1.toInt from by first | exact hn5_tf82 | omega) (show (cf 46).toInt = (cf 46).toInt from rfl) (show (cf 47).toInt = (cf 47).toInt from rfl) (show (xf81 66).toInt = 0 from by first | exact oz_bd42429e38 hn66_xf81 | omega) (show (xf81 68).toInt = (xf 68).toInt from by first | exact hn68_xf81 | omega) (show K_mp_read_12 sb bb p1 tf ta pf na ma wa cf ca ef ea xf xa tf82 ta pf na ma wa cf ca ef ea xf81 xa 0 from (fun y_f0 y_f1 y_f2 y_f3 y_f4 y_f5 y_f6 y_f7 y_f8 y_f9 y_f10 y_f11 y_v k hE => Exists.intro (k + 1) (Or.inl ⟨rfl, xf81, hu_xf81, tf82, hu_tf82, hE⟩))) (show p1.toInt - (0 : Int) < ((((p1.toInt - (0 : Int)).toNat + 1 : Nat) : Int) : Int) from by first | exact oz_natlt | omega) hw (lv_sub hl [1, 2, 3, 0] rfl)
