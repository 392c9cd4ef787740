theorem oz_0ed16e126f {a0 a1 : Int} (h0 : (a1) ≤ a0) (h1 : 0 ≤ a1) : 0 ≤ a0 := by omega
theorem oz_e21a3628b7 {a0 a1 a2 a3 a4 a5 : Int} (h0 : a0 < (a1)) (h1 : a2 ≤ a3 + 20) (h2 : a1 - a2 ≤ a4 - a3) (h3 : a4 < a5) (h4 : a5 ≤ 2049) : a0 < 2100 := by omega
theorem oz_b44eecbc2a {a0 a1 a2 a3 a4 : Int} (h0 : a0 - a1 ≤ a2 - a3) (h1 : a1 ≤ a3 + 20) (h2 : a2 < a4) (h3 : a4 ≤ 2049) : a0 < 2100 := by omega
theorem oz_0928006ac4 {a0 a1 a2 a3 : Int} (h0 : a0 + 1 ≤ a2) (h1 : a1 = a3 + (1 : Int)) (h2 : a3 = a2) : a0 + 1 ≤ a1 := by omega
theorem oz_65cc19c39a {a0 a1 a2 : Int} (h0 : a0 + 1 ≤ a2) (h1 : a1 = a2 + 1) : a0 + 1 ≤ a1 := by omega
theorem oz_c182f2bf2c {a0 a1 a2 a3 a4 a5 a6 : Int} (h0 : a4 - a1 ≤ a5 - a3) (h1 : a0 = a4 + 1) (h2 : a2 = a6 + (1 : Int)) (h3 : a6 = a5) : a0 - a1 ≤ a2 - a3 := by omega
theorem oz_14838bf257 {a0 a1 a2 a3 a4 a5 : Int} (h0 : a0 - a1 ≤ a2 - a3 - (a4 + 1 - a5)) (h1 : a5 - 1 ≤ a4) : a0 - a1 ≤ a2 - a3 := by omega
theorem oz_20f01d2cb2 {a0 a1 a2 a3 : Int} (h0 : a2 = a1 + a3) (h1 : a0 = a2 - a3) : a0 = a1 := by omega
theorem oz_71e471c581 {a0 a1 a2 a3 a4 a5 a6 : Int} (h0 : a0 - a1 ≤ a2 - a3 - (a4 + 1 - a5)) (h1 : a1 ≤ a3 + 20) (h2 : a2 < a6) (h3 : ¬ a4 < a5) (h4 : a6 ≤ 2049) : a0 < 2100 := by omega
theorem oz_31360b6364 {a0 a1 a2 : Int} (h0 : ¬ a0 < a1) (h1 : 0 ≤ a2) (h2 : a1 = a2) : 0 ≤ a0 := by omega
theorem oz_bbe56908ed {a0 a1 a2 a3 a4 a5 a6 : Int} (h0 : a2 < a1) (h1 : a3 - a4 ≤ a2 - a5 - (a0 + 1 - a6)) (h2 : a6 = a5) (h3 : a4 + 1 ≤ a3) : a0 < a1 := by omega
theorem oz_2245017a51 {a0 a1 a2 a3 : Int} (h0 : a3 = a1 + a2) (h1 : a0 = a3) : a0 = a1 + a2 := by omega
theorem oz_fc89eb8599 {a0 a1 a2 : Int} (h0 : ¬ a2 < a0) (h1 : a1 = a2 + (-1)) : a0 - 1 ≤ a1 := by omega
theorem oz_4a311118dd {a0 a1 a2 a3 : Int} (h0 : a3 < a1 + a2) (h1 : a0 = a3 + (-1)) : a0 < a1 + a2 := by omega
theorem oz_d540ff4746 {a0 a1 a2 a3 a4 a5 a6 : Int} (h0 : a2 - a3 ≤ a4 - a0 - (a5 + 1 - a6)) (h1 : a1 = a4) (h2 : a3 + 1 ≤ a2) (h3 : ¬ a5 < a6) : a0 + 1 ≤ a1 := by omega
theorem oz_368756936e {a0 a1 a2 a3 a4 a5 a6 a7 a8 : Int} (h0 : a6 - a1 ≤ a7 - a3 - (a8 + 1 - a5)) (h1 : a0 = a6 + 1) (h2 : a2 = a7) (h3 : a4 = a8 + (-1)) : a0 - a1 ≤ a2 - a3 - (a4 + 1 - a5) := by omega
theorem oz_add21c4255 {a0 a1 a3 : Int} {n2 : Nat} (h0 : a3 - a1 + 1 < (n2 : Int)) (h1 : a0 = a3 + (-1)) : a0 - a1 + 1 < (n2 : Int) := by omega
theorem oz_800222437a {a0 a1 a2 a3 a4 : Int} (h0 : a0 = a2) (h1 : a1 = a3 + a4) (h2 : a2 ≤ a3 + 20) (h3 : 0 ≤ a4) : a0 ≤ a1 + 20 := by omega
theorem oz_f02d107ac1 {a0 a1 a2 a3 a4 : Int} (h0 : a0 = a2) (h1 : a1 = a3 + a4) (h2 : a2 ≤ a3) (h3 : 0 ≤ a4) : a0 ≤ a1 := by omega
theorem oz_9d5e284dcb {a0 a2 a3 : Int} {n1 : Nat} (h0 : 61 ≤ a2 + (n1 : Int)) (h1 : a0 = a2 + a3) (h2 : 0 ≤ a3) : 61 ≤ a0 + (n1 : Int) := by omega
theorem oz_9bccc76440 {a0 a1 a2 : Int} (h0 : a1 = a2 + a0) (h1 : 0 ≤ a2) (h2 : a1 ≤ 60) : a0 ≤ 60 := by omega
theorem oz_617a127466 {a0 a1 a2 a3 : Int} (h0 : a2 = a0 + a3) (h1 : a1 = a2 - (1 : Int)) (h2 : 0 ≤ a3) : a0 - 1 ≤ a1 := by omega
theorem oz_fbd1b191bd {a0 a1 a2 a3 : Int} (h0 : a3 = a1 + a2) (h1 : a0 = a3 - (1 : Int)) : a0 < a1 + a2 := by omega
theorem oz_1c73979c71 {a0 a1 a2 a3 : Int} (h0 : a2 = a0 + a3) (h1 : a2 + 1 ≤ a1) (h2 : 0 ≤ a3) : a0 + 1 ≤ a1 := by omega
theorem oz_293b14259a {a0 a1 a2 a3 a4 : Int} (h0 : a3 = a0 + a1) (h1 : a4 < a2) (h2 : a3 + 1 ≤ a4) : a0 + a1 < a2 := by omega
theorem oz_e32fa9118d {a0 a1 a2 a3 a4 a5 a6 a7 a8 a9 : Int} (h0 : a6 = a1) (h1 : a7 = a3 + a8) (h2 : a0 - a6 ≤ a2 - a7) (h3 : a9 = a5 + a8) (h4 : a4 = a9 - (1 : Int)) : a0 - a1 ≤ a2 - a3 - (a4 + 1 - a5) := by omega
theorem oz_d5f2eb533b {a0 a1 a2 a3 a4 : Int} (h0 : a3 = a1 + a4) (h1 : a0 = a3 + 1) (h2 : a2 = a4 + 1) : a0 = a1 + a2 := by omega
theorem oz_84050b1295 {a0 a1 a3 : Int} {n2 : Nat} (h0 : a0 - a3 < (n2 : Int)) (h1 : a1 = a3 + 1) : a0 - a1 < (n2 : Int) := by omega
theorem m12_31 : Cond.methodLink "HomeSystemModel$Program" 436 ⟨"HomeSystemModel$Program", "primary", "()I"⟩ ∈ AL := AL_12 (List.mem_of_getElem? (i := 31) rfl) rfl
theorem m12_34 : Cond.code ⟨"HomeSystemModel$Program", "primary", "()I"⟩ prog_16_method_40_code 3 (Option.some FieldType.int) ∈ AL := AL_12 (List.mem_of_getElem? (i := 34) rfl) rfl
theorem ms_9_10 : Cond.selects "HomeSystemModel$Program" ⟨"HomeSystemModel$Program", "primary", "()I"⟩ ⟨"HomeSystemModel$Program", "primary", "()I"⟩ ∈ AL := AL_p (q := (⟨"HomeSystemModel$Program", "primary", "()I"⟩, 69)) (by unfold lw_privs; exact List.mem_append_right _ (List.mem_append_right _ (List.mem_append_right _ (List.mem_append_right _ (List.mem_append_right _ (List.mem_append_right _ (List.mem_append_right _ (List.mem_append_right _ (List.mem_append_left _ (List.mem_of_getElem? (i := 10) rfl))))))))))
theorem m12_33 : Cond.instanceMethod ⟨"HomeSystemModel$Program", "primary", "()I"⟩ ∈ AL := AL_12 (List.mem_of_getElem? (i := 33) rfl) rfl
theorem m12_43 : Cond.methodLink "HomeSystemModel$Program" 400 ⟨"HomeSystemModel$Program", "stands", "(I)V"⟩ ∈ AL := AL_12 (List.mem_of_getElem? (i := 43) rfl) rfl
theorem m12_46 : Cond.code ⟨"HomeSystemModel$Program", "stands", "(I)V"⟩ prog_16_method_34_code 2 (Option.none : Option Jvm.ClassFile.FieldType) ∈ AL := AL_12 (List.mem_of_getElem? (i := 46) rfl) rfl
theorem ms_9_13 : Cond.selects "HomeSystemModel$Program" ⟨"HomeSystemModel$Program", "stands", "(I)V"⟩ ⟨"HomeSystemModel$Program", "stands", "(I)V"⟩ ∈ AL := AL_p (q := (⟨"HomeSystemModel$Program", "stands", "(I)V"⟩, 69)) (by unfold lw_privs; exact List.mem_append_right _ (List.mem_append_right _ (List.mem_append_right _ (List.mem_append_right _ (List.mem_append_right _ (List.mem_append_right _ (List.mem_append_right _ (List.mem_append_right _ (List.mem_append_left _ (List.mem_of_getElem? (i := 13) rfl))))))))))
theorem m12_45 : Cond.instanceMethod ⟨"HomeSystemModel$Program", "stands", "(I)V"⟩ ∈ AL := AL_12 (List.mem_of_getElem? (i := 45) rfl) rfl
theorem m12_62 : Cond.methodLink "HomeSystemModel$Program" 418 ⟨"HomeSystemModel$Program", "isNothing", "(I)Z"⟩ ∈ AL := AL_12 (List.mem_of_getElem? (i := 62) rfl) rfl
theorem m12_65 : Cond.code ⟨"HomeSystemModel$Program", "isNothing", "(I)Z"⟩ prog_16_method_35_code 2 (Option.some FieldType.boolean) ∈ AL := AL_12 (List.mem_of_getElem? (i := 65) rfl) rfl
theorem ms_10_1 : Cond.selects "HomeSystemModel$Program" ⟨"HomeSystemModel$Program", "isNothing", "(I)Z"⟩ ⟨"HomeSystemModel$Program", "isNothing", "(I)Z"⟩ ∈ AL := AL_p (q := (⟨"HomeSystemModel$Program", "isNothing", "(I)Z"⟩, 69)) (by unfold lw_privs; exact List.mem_append_right _ (List.mem_append_right _ (List.mem_append_right _ (List.mem_append_right _ (List.mem_append_right _ (List.mem_append_right _ (List.mem_append_right _ (List.mem_append_right _ (List.mem_append_right _ (List.mem_append_left _ (List.mem_of_getElem? (i := 1) rfl)))))))))))
theorem m12_64 : Cond.instanceMethod ⟨"HomeSystemModel$Program", "isNothing", "(I)Z"⟩ ∈ AL := AL_12 (List.mem_of_getElem? (i := 64) rfl) rfl
theorem m12_23 : Cond.methodLink "HomeSystemModel$Program" 430 ⟨"HomeSystemModel$Program", "isPrefix", "()Z"⟩ ∈ AL := AL_12 (List.mem_of_getElem? (i := 23) rfl) rfl
theorem m12_26 : Cond.code ⟨"HomeSystemModel$Program", "isPrefix", "()Z"⟩ prog_16_method_30_code 1 (Option.some FieldType.boolean) ∈ AL := AL_12 (List.mem_of_getElem? (i := 26) rfl) rfl
theorem ms_9_8 : Cond.selects "HomeSystemModel$Program" ⟨"HomeSystemModel$Program", "isPrefix", "()Z"⟩ ⟨"HomeSystemModel$Program", "isPrefix", "()Z"⟩ ∈ AL := AL_p (q := (⟨"HomeSystemModel$Program", "isPrefix", "()Z"⟩, 69)) (by unfold lw_privs; exact List.mem_append_right _ (List.mem_append_right _ (List.mem_append_right _ (List.mem_append_right _ (List.mem_append_right _ (List.mem_append_right _ (List.mem_append_right _ (List.mem_append_right _ (List.mem_append_left _ (List.mem_of_getElem? (i := 8) rfl))))))))))
theorem m12_25 : Cond.instanceMethod ⟨"HomeSystemModel$Program", "isPrefix", "()Z"⟩ ∈ AL := AL_12 (List.mem_of_getElem? (i := 25) rfl) rfl
theorem m12_27 : Cond.methodLink "HomeSystemModel$Program" 433 ⟨"HomeSystemModel$Program", "postfix", "()I"⟩ ∈ AL := AL_12 (List.mem_of_getElem? (i := 27) rfl) rfl
theorem m12_30 : Cond.code ⟨"HomeSystemModel$Program", "postfix", "()I"⟩ prog_16_method_39_code 3 (Option.some FieldType.int) ∈ AL := AL_12 (List.mem_of_getElem? (i := 30) rfl) rfl
theorem ms_9_9 : Cond.selects "HomeSystemModel$Program" ⟨"HomeSystemModel$Program", "postfix", "()I"⟩ ⟨"HomeSystemModel$Program", "postfix", "()I"⟩ ∈ AL := AL_p (q := (⟨"HomeSystemModel$Program", "postfix", "()I"⟩, 69)) (by unfold lw_privs; exact List.mem_append_right _ (List.mem_append_right _ (List.mem_append_right _ (List.mem_append_right _ (List.mem_append_right _ (List.mem_append_right _ (List.mem_append_right _ (List.mem_append_right _ (List.mem_append_left _ (List.mem_of_getElem? (i := 9) rfl))))))))))
theorem m12_29 : Cond.instanceMethod ⟨"HomeSystemModel$Program", "postfix", "()I"⟩ ∈ AL := AL_12 (List.mem_of_getElem? (i := 29) rfl) rfl
abbrev b_Mpg_postfix : ByteArray := prog_16_method_39_code
def y_Mpg_postfix : MethodName := ⟨"HomeSystemModel$Program", "postfix", "()I"⟩
theorem d_Mpg_postfix_0 : decode b_Mpg_postfix 0 = .ok (.aload_n 0, 1) := by decide +kernel
theorem d_Mpg_postfix_1 : decode b_Mpg_postfix 1 = .ok (.invokevirtual 436, 3) := by decide +kernel
theorem d_Mpg_postfix_4 : decode b_Mpg_postfix 4 = .ok (.istore_n 1, 1) := by decide +kernel
theorem d_Mpg_postfix_5 : decode b_Mpg_postfix 5 = .ok (.aload_n 0, 1) := by decide +kernel
theorem d_Mpg_postfix_6 : decode b_Mpg_postfix 6 = .ok (.ldc 83, 2) := by decide +kernel
theorem d_Mpg_postfix_8 : decode b_Mpg_postfix 8 = .ok (.invokevirtual 366, 3) := by decide +kernel
theorem d_Mpg_postfix_11 : decode b_Mpg_postfix 11 = .ok (.ifCond .ne 12, 3) := by decide +kernel
theorem d_Mpg_postfix_14 : decode b_Mpg_postfix 14 = .ok (.aload_n 0, 1) := by decide +kernel
theorem d_Mpg_postfix_15 : decode b_Mpg_postfix 15 = .ok (.ldc 85, 2) := by decide +kernel
theorem d_Mpg_postfix_17 : decode b_Mpg_postfix 17 = .ok (.invokevirtual 366, 3) := by decide +kernel
theorem d_Mpg_postfix_20 : decode b_Mpg_postfix 20 = .ok (.ifCond .eq 64, 3) := by decide +kernel
theorem d_Mpg_postfix_23 : decode b_Mpg_postfix 23 = .ok (.aload_n 0, 1) := by decide +kernel
theorem d_Mpg_postfix_24 : decode b_Mpg_postfix 24 = .ok (.iload_n 1, 1) := by decide +kernel
theorem d_Mpg_postfix_25 : decode b_Mpg_postfix 25 = .ok (.invokevirtual 400, 3) := by decide +kernel
theorem d_Mpg_postfix_28 : decode b_Mpg_postfix 28 = .ok (.aload_n 0, 1) := by decide +kernel
theorem d_Mpg_postfix_29 : decode b_Mpg_postfix 29 = .ok (.bipush 6, 2) := by decide +kernel
theorem d_Mpg_postfix_31 : decode b_Mpg_postfix 31 = .ok (.aload_n 0, 1) := by decide +kernel
theorem d_Mpg_postfix_32 : decode b_Mpg_postfix 32 = .ok (.getfield 360, 3) := by decide +kernel
theorem d_Mpg_postfix_35 : decode b_Mpg_postfix 35 = .ok (.invokevirtual 406, 3) := by decide +kernel
theorem d_Mpg_postfix_38 : decode b_Mpg_postfix 38 = .ok (.istore_n 2, 1) := by decide +kernel
theorem d_Mpg_postfix_39 : decode b_Mpg_postfix 39 = .ok (.aload_n 0, 1) := by decide +kernel
theorem d_Mpg_postfix_40 : decode b_Mpg_postfix 40 = .ok (.getfield 213, 3) := by decide +kernel
theorem d_Mpg_postfix_43 : decode b_Mpg_postfix 43 = .ok (.iload_n 2, 1) := by decide +kernel
theorem d_Mpg_postfix_44 : decode b_Mpg_postfix 44 = .ok (.aload_n 0, 1) := by decide +kernel
theorem d_Mpg_postfix_45 : decode b_Mpg_postfix 45 = .ok (.getfield 213, 3) := by decide +kernel
theorem d_Mpg_postfix_48 : decode b_Mpg_postfix 48 = .ok (.iload_n 1, 1) := by decide +kernel
theorem d_Mpg_postfix_49 : decode b_Mpg_postfix 49 = .ok (.iaload, 1) := by decide +kernel
theorem d_Mpg_postfix_50 : decode b_Mpg_postfix 50 = .ok (.iastore, 1) := by decide +kernel
theorem d_Mpg_postfix_51 : decode b_Mpg_postfix 51 = .ok (.aload_n 0, 1) := by decide +kernel
theorem d_Mpg_postfix_52 : decode b_Mpg_postfix 52 = .ok (.getfield 234, 3) := by decide +kernel
theorem d_Mpg_postfix_55 : decode b_Mpg_postfix 55 = .ok (.iload_n 2, 1) := by decide +kernel
theorem d_Mpg_postfix_56 : decode b_Mpg_postfix 56 = .ok (.iconst 1, 1) := by decide +kernel
theorem d_Mpg_postfix_57 : decode b_Mpg_postfix 57 = .ok (.aload_n 0, 1) := by decide +kernel
theorem d_Mpg_postfix_58 : decode b_Mpg_postfix 58 = .ok (.getfield 234, 3) := by decide +kernel
theorem d_Mpg_postfix_61 : decode b_Mpg_postfix 61 = .ok (.iload_n 1, 1) := by decide +kernel
theorem d_Mpg_postfix_62 : decode b_Mpg_postfix 62 = .ok (.iaload, 1) := by decide +kernel
theorem d_Mpg_postfix_63 : decode b_Mpg_postfix 63 = .ok (.iadd, 1) := by decide +kernel
theorem d_Mpg_postfix_64 : decode b_Mpg_postfix 64 = .ok (.iastore, 1) := by decide +kernel
theorem d_Mpg_postfix_65 : decode b_Mpg_postfix 65 = .ok (.aload_n 0, 1) := by decide +kernel
theorem d_Mpg_postfix_66 : decode b_Mpg_postfix 66 = .ok (.getfield 216, 3) := by decide +kernel
theorem d_Mpg_postfix_69 : decode b_Mpg_postfix 69 = .ok (.iload_n 2, 1) := by decide +kernel
theorem d_Mpg_postfix_70 : decode b_Mpg_postfix 70 = .ok (.iload_n 1, 1) := by decide +kernel
theorem d_Mpg_postfix_71 : decode b_Mpg_postfix 71 = .ok (.iastore, 1) := by decide +kernel
theorem d_Mpg_postfix_72 : decode b_Mpg_postfix 72 = .ok (.iload_n 2, 1) := by decide +kernel
theorem d_Mpg_postfix_73 : decode b_Mpg_postfix 73 = .ok (.istore_n 1, 1) := by decide +kernel
theorem d_Mpg_postfix_74 : decode b_Mpg_postfix 74 = .ok (.aload_n 0, 1) := by decide +kernel
theorem d_Mpg_postfix_75 : decode b_Mpg_postfix 75 = .ok (.dup, 1) := by decide +kernel
theorem d_Mpg_postfix_76 : decode b_Mpg_postfix 76 = .ok (.getfield 360, 3) := by decide +kernel
theorem d_Mpg_postfix_79 : decode b_Mpg_postfix 79 = .ok (.iconst 1, 1) := by decide +kernel
theorem d_Mpg_postfix_80 : decode b_Mpg_postfix 80 = .ok (.iadd, 1) := by decide +kernel
theorem d_Mpg_postfix_81 : decode b_Mpg_postfix 81 = .ok (.putfield 360, 3) := by decide +kernel
theorem d_Mpg_postfix_84 : decode b_Mpg_postfix 84 = .ok (.iload_n 1, 1) := by decide +kernel
theorem d_Mpg_postfix_85 : decode b_Mpg_postfix 85 = .ok (.ireturn, 1) := by decide +kernel
theorem q_Mpg_postfix : px_y y_Mpg_postfix 0 := by unfold px_y; decide +kernel
set_option maxHeartbeats 4000000 in
set_option maxRecDepth 100000 in
theorem c_mp_postfix (l : Launch) (D : va_G) (cs : Nat → ClassId) (h : Nat) (r : Nat → Nat) (g : Nat → Nat → Option Nat) (tf : Nat → Int32) (ta : Nat → Nat → Int32) (cf : Nat → Int32) (ca : Nat → Nat → Int32) (ef : Nat → Int32) (ea : Nat → Nat → Int32) (xf : Nat → Int32) (xa : Nat → Nat → Int32) (pf : Nat → Int32) (na : Nat → Nat → Int32) (ma : Nat → Nat → Int32) (wa : Nat → Nat → Int32) (lv : Nat) (g0 : 0 ≤ (pf 11).toInt) (g1 : (pf 11).toInt < (tf 6).toInt) (g2 : (tf 6).toInt ≤ 2049) (g3 : 0 ≤ (pf 12).toInt) (g4 : (pf 12).toInt ≤ 60) (g5 : 0 ≤ (pf 13).toInt) (g6 : (pf 13).toInt ≤ (pf 11).toInt + 20) (g7 : 0 ≤ (pf 26).toInt) (g8 : (pf 26).toInt ≤ (pf 12).toInt) (g9 : 61 ≤ (pf 12).toInt + (lv : Int)) (g10 : lv ≤ 61) (hlf : l.flags = pinnedFlags ++ [noTraceFlag]) (htk : TkI tf ta) (hfs : FsI (tf 6).toInt (pf 13).toInt na) (hE : LvE l D cs lv) : ThI l y_Mpg_postfix b_Mpg_postfix 3 (.int) D cs (8 * lv + 16) (220 * lv + 600) [.ref h] [wdP cs h r g tf ta pf na ma wa cf ca ef ea xf xa] (oX (fun A U H => (oN A U H) ∧ (oP A g U H)) [wdP cs h r g tf ta pf na ma wa cf ca ef ea xf xa]) "java/lang/IllegalArgumentException" (fun v ps => ∃ (pf' : Nat → Int32) (na' : Nat → Nat → Int32) (ma' : Nat → Nat → Int32) (wa' : Nat → Nat → Int32), (ps = [wdP cs h r g tf ta pf' na' ma' wa' cf ca ef ea xf xa]) ∧ ((pf 11).toInt + 1 ≤ (pf' 11).toInt) ∧ ((pf' 11).toInt < (tf 6).toInt) ∧ ((pf 13).toInt + 1 ≤ (pf' 13).toInt) ∧ ((pf' 13).toInt - (pf 13).toInt ≤ (pf' 11).toInt - (pf 11).toInt) ∧ (bp ta (pf 11) + 1 ≤ bp ta (pf' 11)) ∧ ((pf' 12).toInt = (pf 12).toInt) ∧ ((pf' 24).toInt = (pf 24).toInt) ∧ ((pf' 25).toInt = (pf 25).toInt) ∧ ((pf' 26).toInt = (pf 26).toInt) ∧ (FrB (pf 13).toInt na ma na' ma') ∧ (FrW (pf 26).toInt wa wa') ∧ (ExR ta (tf 6).toInt na' ma' v (pf 13).toInt (pf' 13).toInt (3 * (bp ta (pf' 11) - bp ta (pf 11))) (pf 12).toInt) ∧ (FsI (tf 6).toInt (pf' 13).toInt na')) (fun ps => ∃ (pf' : Nat → Int32) (na' : Nat → Nat → Int32) (ma' : Nat → Nat → Int32) (wa' : Nat → Nat → Int32), ps = [wdP cs h r g tf ta pf' na' ma' wa' cf ca ef ea xf xa] ∧ 0 ≤ (pf' 11).toInt ∧ (pf' 11).toInt + 1 ≤ (tf 6).toInt) := by
  refine th_enter (by decide) (Nat.le_of_ble_eq_true rfl) ?_
  intro p e s m below meth c A ls hAe S hr hlk hnm hA hT hX hw hl hne hadm
  have hl : lv_has ls 3 [(0, .ref h)] := hl
  have cst1 : (1 : Int32).toInt = 1 := rfl
  have cst6 : (6 : Int32).toInt = 6 := rfl
  have hX : (fun A U H => (oN A U H) ∧ (oP A g U H)) A s s.heap := by rw [hAe]; exact hX
  obtain ⟨hN, hP⟩ := hX
  have hZ := hP.1
  have hF0 := hP.2.1
  have hfb : FrB (pf 13).toInt na ma na ma := FrB.rf
  have hfw : FrW (pf 26).toInt wa wa := FrW.rf
  refine lv_aload_n S.x S.b d_Mpg_postfix_0 rfl (lv_at hl 0 rfl) ?_
  refine th_calli (ps0 := [wdP cs h r g tf ta pf na ma wa cf ca ef ea xf xa]) (pr := []) (pcs := [wdP cs h r g tf ta pf na ma wa cf ca ef ea xf xa]) (As := []) (rest := []) (c_mp_primary l D cs h r g tf ta cf ca ef ea xf xa pf na ma wa  lv (show 0 ≤ (pf 11).toInt from by first | exact g0 | omega) (show (pf 11).toInt < (tf 6).toInt from by first | exact g1 | omega) (show (tf 6).toInt ≤ 2049 from by first | exact g2 | omega) (show 0 ≤ (pf 12).toInt from by first | exact g3 | omega) (show (pf 12).toInt ≤ 60 from by first | exact g4 | omega) (show 0 ≤ (pf 13).toInt from by first | exact g5 | omega) (show (pf 13).toInt ≤ (pf 11).toInt + 20 from by first | exact g6 | omega) (show 0 ≤ (pf 26).toInt from by first | exact g7 | omega) (show (pf 26).toInt ≤ (pf 12).toInt from by first | exact g8 | omega) (show 61 ≤ (pf 12).toInt + (lv : Int) from by first | exact g9 | omega) (show lv ≤ 61 from by first | exact g10 | omega) hlf htk (FsI.le (N' := (pf 13).toInt) hfs (by first | with_reducible rfl | with_reducible assumption | omega)) hE) S hT hw (oX_call (P := (fun A U H => (oN A U H) ∧ (oP A g U H))) (pr := []) (oG_and oG_N oG_P) hw hA ⟨hN, hP⟩) (px_recv hT hw 0 0 rfl rfl rfl) m12_34 m12_31 m12_33 ms_9_10 m1_21 q_Mpg_primary ⟨show (8 * lv + 15) + 1 ≤ (8 * lv + 16) from by first | with_reducible rfl | with_reducible assumption | omega, show 8 + (3 + 11) + (220 * lv + 570) ≤ (220 * lv + 600) from by first | with_reducible rfl | with_reducible assumption | omega⟩ hl.1 rfl (Nat.le_of_ble_eq_true rfl) d_Mpg_postfix_1 ⟨Nat.le_of_ble_eq_true rfl, Nat.le_of_ble_eq_true rfl⟩ hne hlk hA hAe (fun o t h => Or.inr h) ?_ (fun v10 p9 H locs hp9 hw => ?_)
  · exact fun p1 H1 locs1 hp hw => by obtain ⟨pq1, pq2, pq3, pq4, rfl, hq1, hq2⟩ := hp; exact ⟨_, ⟨pq1, pq2, pq3, pq4, rfl, hq1, hq2⟩, hw⟩
  obtain ⟨pf5, na6, ma7, wa8, rfl, e11, e12, e13, e14, e15, e16, e17, e18, e19, e20, e21, e22, e23⟩ := hp9
  have e11 : (pf 11).toInt + 1 ≤ (pf5 11).toInt := e11
  have e12 : (pf5 11).toInt < (tf 6).toInt := e12
  have e13 : (pf 13).toInt + 1 ≤ (pf5 13).toInt := e13
  have e14 : (pf5 13).toInt - (pf 13).toInt ≤ (pf5 11).toInt - (pf 11).toInt := e14
  have e15 : bp ta (pf 11) + 1 ≤ bp ta (pf5 11) := e15
  have e16 : (pf5 12).toInt = (pf 12).toInt := e16
  have e17 : (pf5 24).toInt = (pf 24).toInt := e17
  have e18 : (pf5 25).toInt = (pf 25).toInt := e18
  have e19 : (pf5 26).toInt = (pf 26).toInt := e19
  have e20 : FrB (pf 13).toInt na ma na6 ma7 := e20
  have hfb := hfb.tr e20 (by first | with_reducible rfl | with_reducible assumption | omega)
  have e21 : FrW (pf 26).toInt wa wa8 := e21
  have hfw := hfw.tr e21 (by first | with_reducible rfl | with_reducible assumption | omega)
  have e22 : ExR ta (tf 6).toInt na6 ma7 v10 (pf 13).toInt (pf5 13).toInt (3 * (bp ta (pf5 11) - bp ta (pf 11))) (pf 12).toInt := e22
  have ht_v10 := e22
  have hn_ht_v10 := ht_v10.num
  have e23 : FsI (tf 6).toInt (pf5 13).toInt na6 := e23
  have hfs := e23
  have hw : pw D A s.heap H locs [wdP cs h r g tf ta pf5 na6 ma7 wa8 cf ca ef ea xf xa] := hw
  have lv10 := Int32.le_toInt v10
  have uv10 := Int32.toInt_lt v10
  refine lv_istore_n (lv' := [(1, .int v10), (0, .ref h)]) S.x S.b d_Mpg_postfix_4 rfl hl (by decide) rfl (fun ls hl => ?_)
  refine lv_aload_n S.x S.b d_Mpg_postfix_5 rfl (lv_at hl 1 rfl) ?_
  obtain ⟨sk24, hRsk24, st25, sb26, hSsk24⟩ := oP_lit hP (k := 83) (tx := "++") (n := 2) (List.mem_of_getElem? (i := 33) rfl)
  refine va_ldcS S.x S.b S.own hRsk24 d_Mpg_postfix_6 ?_
  refine px_calli (pr := []) (px_runV (As := [.ref sk24]) (rest := []) S (c_mp_is l D cs sk24 2 h r g tf ta pf5 na6 ma7 wa8 cf ca ef ea xf xa   (show 0 ≤ (pf5 11).toInt from by first | exact oz_06d7f15a5c e11 g0 | omega) (show (pf5 11).toInt < (tf 6).toInt from by first | exact e12 | omega) (show (tf 6).toInt ≤ 2049 from by first | exact g2 | omega) (show 2 ≤ 100 from by first | decide | omega) htk _) hT (pr := []) (pcs := [wdP cs h r g tf ta pf5 na6 ma7 wa8 cf ca ef ea xf xa]) hw (oX_call (P := (fun A U H => (oP A g U H) ∧ (StS A sk24 2 U H))) (pr := []) (oG_and oG_P oG_Q) hw hA ⟨hP, ⟨_, _, hSsk24⟩⟩) (px_recv hT hw 0 0 rfl rfl rfl) m11_217 m11_214 m11_216 ms_8_14 m1_21 q_Mpg_is ⟨show 3 + 1 ≤ (8 * lv + 16) from by first | with_reducible rfl | with_reducible assumption | omega, show 8 + (2 + 11) + 120 ≤ (220 * lv + 600) from by first | with_reducible rfl | with_reducible assumption | omega⟩ hl.1 rfl (Nat.le_of_ble_eq_true rfl) d_Mpg_postfix_8 ⟨Nat.le_of_ble_eq_true rfl, Nat.le_of_ble_eq_true rfl⟩) hw hA (fun v28 p27 H locs hp27 hw => ?_)
  obtain ⟨rfl, e29, e30⟩ := hp27
  have e29 := z_rng e29
  have e30 : v28.toInt = 1 → (pf5 11).toInt + 1 < (tf 6).toInt ∧ so ta (pf5 11) = 5 := e30
  have hw : pw D A s.heap H locs [wdP cs h r g tf ta pf5 na6 ma7 wa8 cf ca ef ea xf xa] := hw
  have lv28 := Int32.le_toInt v28
  have uv28 := Int32.toInt_lt v28
  refine lv_if_ne (tgt := 23) S.x S.b d_Mpg_postfix_11 (by decide) (fun c31 => ?_) (fun c31 => ?_)
  · have nc31 : ¬ v28.toInt = (0 : Int) := mt (i_eq (x := v28) (y := 0)).mpr c31
    refine lv_aload_n S.x S.b d_Mpg_postfix_23 rfl (lv_at hl 1 rfl) ?_
    refine lv_iload_n S.x S.b d_Mpg_postfix_24 rfl (lv_at hl 0 rfl) ?_
    refine th_callv (ps0 := [wdP cs h r g tf ta pf na ma wa cf ca ef ea xf xa]) (pr := []) (pcs := [wdP cs h r g tf ta pf5 na6 ma7 wa8 cf ca ef ea xf xa]) (As := [.int v10]) (rest := []) (c_mp_stands l D cs h r g tf ta pf5 na6 ma7 wa8 cf ca ef ea xf xa v10  (show 0 ≤ (pf5 11).toInt from by first | exact oz_06d7f15a5c e11 g0 | omega) (show (pf5 11).toInt < (tf 6).toInt from by first | exact e12 | omega) (show 0 ≤ v10.toInt from by first | exact oz_0ed16e126f hn_ht_v10.1 g5 | omega) (show v10.toInt < 2100 from by first | exact oz_e21a3628b7 hn_ht_v10.2.1 g6 e14 e12 g2 | omega) (show 0 ≤ dp na6 v10 from by first | with_reducible rfl | with_reducible assumption | omega) (show dp na6 v10 ≤ 1000 from by first | with_reducible rfl | with_reducible assumption | omega) (show 0 ≤ (pf5 12).toInt from by first | exact oz_f3ebed1ad0 e16 g3 | omega) (show (pf5 12).toInt ≤ 60 from by first | exact oz_a3db38fa3c e16 g4 | omega) hlf htk) S hT hw (oX_call (P := (fun A U H => (oN A U H) ∧ (oP A g U H))) (pr := []) (oG_and oG_N oG_P) hw hA ⟨hN, hP⟩) (px_recv hT hw 0 0 rfl rfl rfl) m12_46 m12_43 m12_45 ms_9_13 m1_21 q_Mpg_stands2 ⟨show 7 + 1 ≤ (8 * lv + 16) from by first | with_reducible rfl | with_reducible assumption | omega, show 8 + (2 + 11) + 150 ≤ (220 * lv + 600) from by first | with_reducible rfl | with_reducible assumption | omega⟩ hl.1 rfl (Nat.le_of_ble_eq_true rfl) d_Mpg_postfix_25 ⟨Nat.le_of_ble_eq_true rfl, Nat.le_of_ble_eq_true rfl⟩ hne hlk hA hAe (fun o t h => Or.inr h) ?_ (fun p32 H locs hp32 hw => ?_)
    · exact fun p1 H1 locs1 hp hw => by obtain ⟨pq1, pq2, pq3, pq4, rfl, hq1, hq2⟩ := hp; exact ⟨_, ⟨pq1, pq2, pq3, pq4, rfl, hq1, hq2⟩, hw⟩
    obtain ⟨rfl, e34⟩ := hp32
    have e34 : (pf5 12).toInt + dp na6 v10 < 60 := e34
    have hw : pw D A s.heap H locs [wdP cs h r g tf ta pf5 na6 ma7 wa8 cf ca ef ea xf xa] := hw
    refine lv_aload_n S.x S.b d_Mpg_postfix_28 rfl (lv_at hl 1 rfl) ?_
    refine lv_bipush (v := 6) S.x S.b d_Mpg_postfix_29 (by decide) ?_
    refine lv_aload_n S.x S.b d_Mpg_postfix_31 rfl (lv_at hl 1 rfl) ?_
    refine px_get S k_Mpg hT hw 0 0 11 (v := .int (pf5 11)) rfl rfl rfl (by decide) m9_235 d_Mpg_postfix_32 ?_
    refine px_calli (pr := []) (px_runV (As := [.int 6, .int (pf5 11)]) (rest := []) S (c_mp_make l D cs h r g tf ta wa8 cf ca ef ea xf xa pf5 na6 ma7 6 (pf5 11)  (show 0 ≤ (pf5 13).toInt from by first | exact oz_06d7f15a5c e13 g5 | omega) (show (pf5 13).toInt < 2100 from by first | exact oz_b44eecbc2a e14 g6 e12 g2 | omega) _) hT (pr := []) (pcs := [wdP cs h r g tf ta pf5 na6 ma7 wa8 cf ca ef ea xf xa]) hw px_X.tt (px_recv hT hw 0 0 rfl rfl rfl) m11_209 m11_206 m11_208 ms_8_12 m1_21 q_Mpg_make ⟨show 0 + 1 ≤ (8 * lv + 16) from by first | with_reducible rfl | with_reducible assumption | omega, show 8 + (3 + 11) + 0 ≤ (220 * lv + 600) from by first | with_reducible rfl | with_reducible assumption | omega⟩ hl.1 rfl (Nat.le_of_ble_eq_true rfl) d_Mpg_postfix_35 ⟨Nat.le_of_ble_eq_true rfl, Nat.le_of_ble_eq_true rfl⟩) hw hA (fun v42 p41 H locs hp41 hw => ?_)
    obtain ⟨pf38, na39, ma40, rfl, e43, e44, e45, e46, e47, e48, e49, e50⟩ := hp41
    have e43 : v42.toInt = (pf5 13).toInt := e43
    have e44 : (pf38 13).toInt = (pf5 13).toInt + 1 := e44
    have e45 : (pf38 11).toInt = (pf5 11).toInt := e45
    have e46 : (pf38 12).toInt = (pf5 12).toInt := e46
    have e47 : (pf38 24).toInt = (pf5 24).toInt := e47
    have e48 : (pf38 25).toInt = (pf5 25).toInt := e48
    have e49 : (pf38 26).toInt = (pf5 26).toInt := e49
    have e50 : MkN na6 ma7 na39 ma40 v42 (6 : Int32) (pf5 11) := e50
    obtain ⟨qb511, qb512, qb513, qb514⟩ := tk_eq (ta := ta) (x := (pf38 11)) (y := (pf5 11)) (by first | with_reducible rfl | with_reducible assumption | omega)
    have hmk_v42 := e50
    have hfm_v42 := MkN.frb (b := v42.toInt) hmk_v42 (by first | with_reducible rfl | with_reducible assumption | omega) (by first | with_reducible rfl | with_reducible assumption | omega)
    have ht_v10 := ht_v10.kp (FrB.le hfm_v42 (by first | with_reducible rfl | with_reducible assumption | omega)) (by first | with_reducible rfl | with_reducible assumption | omega)
    have hn_ht_v10 := ht_v10.num
    have hdq_v10 := dp_fb (x := v10) hfm_v42 (by first | with_reducible rfl | with_reducible assumption | omega) (by first | with_reducible rfl | with_reducible assumption | omega)
    have hfs := FsI.mk hfs hmk_v42 (by first | with_reducible rfl | with_reducible assumption | omega) (by first | with_reducible rfl | with_reducible assumption | omega) (by first | with_reducible rfl | with_reducible assumption | omega) (by first | with_reducible rfl | with_reducible assumption | omega)
    have hfb := hfb.tr hfm_v42 (by first | with_reducible rfl | with_reducible assumption | omega)
    have hnk_v42 := hmk_v42.nk (by decide) (by decide) (by first | with_reducible rfl | with_reducible assumption | omega)
    have hdn_v42 := dp_nk hmk_v42
    have hw : pw D A s.heap H locs [wdP cs h r g tf ta pf38 na39 ma40 wa8 cf ca ef ea xf xa] := hw
    have lv42 := Int32.le_toInt v42
    have uv42 := Int32.toInt_lt v42
    refine lv_istore_n (lv' := [(2, .int v42), (1, .int v10), (0, .ref h)]) S.x S.b d_Mpg_postfix_38 rfl hl (by decide) rfl (fun ls hl => ?_)
    refine lv_aload_n S.x S.b d_Mpg_postfix_39 rfl (lv_at hl 2 rfl) ?_
    refine px_get S k_Mpg hT hw 0 0 16 (v := .ref (r 16)) rfl rfl rfl (by decide) m10_0 d_Mpg_postfix_40 ?_
    refine lv_iload_n S.x S.b d_Mpg_postfix_43 rfl (lv_at hl 0 rfl) ?_
    refine lv_aload_n S.x S.b d_Mpg_postfix_44 rfl (lv_at hl 2 rfl) ?_
    refine px_get S k_Mpg hT hw 0 0 16 (v := .ref (r 16)) rfl rfl rfl (by decide) m10_0 d_Mpg_postfix_45 ?_
    refine lv_iload_n S.x S.b d_Mpg_postfix_48 rfl (lv_at hl 1 rfl) ?_
    refine px_iald S hT hw 0 12 (n := 2100) (f := (na39 16)) rfl gp_16 (x := v10) (vp_in_iff.mpr (by constructor <;> omega)) d_Mpg_postfix_49 ?_
    refine lv_topi (fun z52 ez52 => ?_)
    have lz52 := Int32.le_toInt z52
    have uz52 := Int32.toInt_lt z52
    have rz52 := FsI.at hfs (x := v10) (by first | with_reducible rfl | with_reducible assumption | omega) (by first | with_reducible rfl | with_reducible assumption | omega) ez52
    refine px_iast S hT hw 0 12 (n := 2100) (f := (na39 16)) (x := v42) (y := z52) rfl gp_16 (vp_in_iff.mpr (by constructor <;> omega)) d_Mpg_postfix_50 (w' := wdP cs h r g tf ta pf38 (va_up na39 16 (upd (na39 16) v42.toNatClampNeg z52)) ma40 wa8 cf ca ef ea xf xa) (ps' := [wdP cs h r g tf ta pf38 (va_up na39 16 (upd (na39 16) v42.toNatClampNeg z52)) ma40 wa8 cf ca ef ea xf xa]) sp_16 rfl (fun H locs hw => ?_)
    refine lv_aload_n S.x S.b d_Mpg_postfix_51 rfl (lv_at hl 2 rfl) ?_
    refine px_get S k_Mpg hT hw 0 0 23 (v := .ref (r 23)) rfl rfl rfl (by decide) m10_11 d_Mpg_postfix_52 ?_
    refine lv_iload_n S.x S.b d_Mpg_postfix_55 rfl (lv_at hl 0 rfl) ?_
    refine lv_iconst (v := 1) S.x S.b d_Mpg_postfix_56 (by decide) ?_
    refine lv_aload_n S.x S.b d_Mpg_postfix_57 rfl (lv_at hl 2 rfl) ?_
    refine px_get S k_Mpg hT hw 0 0 23 (v := .ref (r 23)) rfl rfl rfl (by decide) m10_11 d_Mpg_postfix_58 ?_
    refine lv_iload_n S.x S.b d_Mpg_postfix_61 rfl (lv_at hl 1 rfl) ?_
    refine px_iald S hT hw 0 19 (n := 2100) (f := ((va_up na39 16 (upd (na39 16) v42.toNatClampNeg z52)) 23)) rfl gp_23 (x := v10) (vp_in_iff.mpr (by constructor <;> omega)) d_Mpg_postfix_62 ?_
    refine lv_topi (fun z53 ez53 => ?_)
    have lz53 := Int32.le_toInt z53
    have uz53 := Int32.toInt_lt z53
    have rz53 : z53.toInt = dp na39 v10 := by have q9 : z53.toInt = dp (va_up na39 16 (upd (na39 16) v42.toNatClampNeg z52)) v10 := (by rw [ez53]; rfl); rw [dp_un (by decide)] at q9; exact q9
    refine lv_iadd S.x S.b d_Mpg_postfix_63 ?_
    refine lv_topi (fun z54 ez54 => ?_)
    have tz54 : z54.toInt = ((1 : Int) + z53.toInt + 2147483648) % 4294967296 - 2147483648 := by rw [ez54]; exact i_add 1 z53
    have lz54 := Int32.le_toInt z54
    have uz54 := Int32.toInt_lt z54
    try replace tz54 : z54.toInt = (1 : Int) + z53.toInt := by omega
    refine px_iast S hT hw 0 19 (n := 2100) (f := ((va_up na39 16 (upd (na39 16) v42.toNatClampNeg z52)) 23)) (x := v42) (y := z54) rfl gp_23 (vp_in_iff.mpr (by constructor <;> omega)) d_Mpg_postfix_64 (w' := wdP cs h r g tf ta pf38 (va_up (va_up na39 16 (upd (na39 16) v42.toNatClampNeg z52)) 23 (upd ((va_up na39 16 (upd (na39 16) v42.toNatClampNeg z52)) 23) v42.toNatClampNeg z54)) ma40 wa8 cf ca ef ea xf xa) (ps' := [wdP cs h r g tf ta pf38 (va_up (va_up na39 16 (upd (na39 16) v42.toNatClampNeg z52)) 23 (upd ((va_up na39 16 (upd (na39 16) v42.toNatClampNeg z52)) 23) v42.toNatClampNeg z54)) ma40 wa8 cf ca ef ea xf xa]) sp_23 rfl (fun H locs hw => ?_)
    refine lv_aload_n S.x S.b d_Mpg_postfix_65 rfl (lv_at hl 2 rfl) ?_
    refine px_get S k_Mpg hT hw 0 0 17 (v := .ref (r 17)) rfl rfl rfl (by decide) m10_1 d_Mpg_postfix_66 ?_
    refine lv_iload_n S.x S.b d_Mpg_postfix_69 rfl (lv_at hl 0 rfl) ?_
    refine lv_iload_n S.x S.b d_Mpg_postfix_70 rfl (lv_at hl 1 rfl) ?_
    refine px_iast S hT hw 0 13 (n := 2100) (f := ((va_up (va_up na39 16 (upd (na39 16) v42.toNatClampNeg z52)) 23 (upd ((va_up na39 16 (upd (na39 16) v42.toNatClampNeg z52)) 23) v42.toNatClampNeg z54)) 17)) (x := v42) (y := v10) rfl gp_17 (vp_in_iff.mpr (by constructor <;> omega)) d_Mpg_postfix_71 (w' := wdP cs h r g tf ta pf38 (va_up (va_up (va_up na39 16 (upd (na39 16) v42.toNatClampNeg z52)) 23 (upd ((va_up na39 16 (upd (na39 16) v42.toNatClampNeg z52)) 23) v42.toNatClampNeg z54)) 17 (upd ((va_up (va_up na39 16 (upd (na39 16) v42.toNatClampNeg z52)) 23 (upd ((va_up na39 16 (upd (na39 16) v42.toNatClampNeg z52)) 23) v42.toNatClampNeg z54)) 17) v42.toNatClampNeg v10)) ma40 wa8 cf ca ef ea xf xa) (ps' := [wdP cs h r g tf ta pf38 (va_up (va_up (va_up na39 16 (upd (na39 16) v42.toNatClampNeg z52)) 23 (upd ((va_up na39 16 (upd (na39 16) v42.toNatClampNeg z52)) 23) v42.toNatClampNeg z54)) 17 (upd ((va_up (va_up na39 16 (upd (na39 16) v42.toNatClampNeg z52)) 23 (upd ((va_up na39 16 (upd (na39 16) v42.toNatClampNeg z52)) 23) v42.toNatClampNeg z54)) 17) v42.toNatClampNeg v10)) ma40 wa8 cf ca ef ea xf xa]) sp_17 rfl (fun H locs hw => ?_)
    refine lv_iload_n S.x S.b d_Mpg_postfix_72 rfl (lv_at hl 0 rfl) ?_
    refine lv_istore_n (lv' := [(1, .int v42), (2, .int v42), (0, .ref h)]) S.x S.b d_Mpg_postfix_73 rfl hl (by decide) rfl (fun ls hl => ?_)
    refine lv_aload_n S.x S.b d_Mpg_postfix_74 rfl (lv_at hl 2 rfl) ?_
    refine lv_dup S.x S.b d_Mpg_postfix_75 rfl ?_
    refine px_get S k_Mpg hT hw 0 0 11 (v := .int (pf38 11)) rfl rfl rfl (by decide) m9_235 d_Mpg_postfix_76 ?_
    refine lv_iconst (v := 1) S.x S.b d_Mpg_postfix_79 (by decide) ?_
    refine lv_iadd S.x S.b d_Mpg_postfix_80 ?_
    have lr55 := Int32.le_toInt (pf38 11)
    have ur55 := Int32.toInt_lt (pf38 11)
    refine lv_topi (fun z56 ez56 => ?_)
    have tz56 : z56.toInt = ((pf38 11).toInt + (1 : Int) + 2147483648) % 4294967296 - 2147483648 := by rw [ez56]; exact i_add (pf38 11) 1
    have lz56 := Int32.le_toInt z56
    have uz56 := Int32.toInt_lt z56
    try replace tz56 : z56.toInt = (pf38 11).toInt + (1 : Int) := by omega
    have hnx80 := tk_n htk (x := (pf38 11)) (y := z56) (by first | with_reducible rfl | with_reducible assumption | omega) (by first | with_reducible rfl | with_reducible assumption | omega) (by first | with_reducible rfl | with_reducible assumption | omega)
    refine px_put S k_Mpg hT hw 0 0 11 rfl rfl (by decide) m9_235 rfl rfl rfl (Nat.le_of_ble_eq_true rfl) d_Mpg_postfix_81 (w' := wdP cs h r g tf ta (upd pf38 11 z56) (va_up (va_up (va_up na39 16 (upd (na39 16) v42.toNatClampNeg z52)) 23 (upd ((va_up na39 16 (upd (na39 16) v42.toNatClampNeg z52)) 23) v42.toNatClampNeg z54)) 17 (upd ((va_up (va_up na39 16 (upd (na39 16) v42.toNatClampNeg z52)) 23 (upd ((va_up na39 16 (upd (na39 16) v42.toNatClampNeg z52)) 23) v42.toNatClampNeg z54)) 17) v42.toNatClampNeg v10)) ma40 wa8 cf ca ef ea xf xa) (ps' := [wdP cs h r g tf ta (upd pf38 11 z56) (va_up (va_up (va_up na39 16 (upd (na39 16) v42.toNatClampNeg z52)) 23 (upd ((va_up na39 16 (upd (na39 16) v42.toNatClampNeg z52)) 23) v42.toNatClampNeg z54)) 17 (upd ((va_up (va_up na39 16 (upd (na39 16) v42.toNatClampNeg z52)) 23 (upd ((va_up na39 16 (upd (na39 16) v42.toNatClampNeg z52)) 23) v42.toNatClampNeg z54)) 17) v42.toNatClampNeg v10)) ma40 wa8 cf ca ef ea xf xa]) rfl rfl (fun H locs hw => ?_)
    refine lv_iload_n S.x S.b d_Mpg_postfix_84 rfl (lv_at hl 0 rfl) ?_
    exact th_iret (v := v42) S hr rfl hlk hAe hw (⟨(upd pf38 11 z56), (va_up (va_up (va_up na39 16 (upd (na39 16) v42.toNatClampNeg z52)) 23 (upd ((va_up na39 16 (upd (na39 16) v42.toNatClampNeg z52)) 23) v42.toNatClampNeg z54)) 17 (upd ((va_up (va_up na39 16 (upd (na39 16) v42.toNatClampNeg z52)) 23 (upd ((va_up na39 16 (upd (na39 16) v42.toNatClampNeg z52)) 23) v42.toNatClampNeg z54)) 17) v42.toNatClampNeg v10)), ma40, wa8, rfl, (show (pf 11).toInt + 1 ≤ z56.toInt from by first | exact oz_0928006ac4 e11 tz56 e45 | omega), (show z56.toInt < (tf 6).toInt from by first | with_reducible rfl | with_reducible assumption | omega), (show (pf 13).toInt + 1 ≤ (pf38 13).toInt from by first | exact oz_65cc19c39a e13 e44 | omega), (show (pf38 13).toInt - (pf 13).toInt ≤ z56.toInt - (pf 11).toInt from by first | exact oz_c182f2bf2c e14 e44 tz56 e45 | omega), (show bp ta (pf 11) + 1 ≤ bp ta z56 from by first | with_reducible rfl | with_reducible assumption | omega), (show (pf38 12).toInt = (pf 12).toInt from by first | exact oz_1687f4cc65 e16 e46 | omega), (show (pf38 24).toInt = (pf 24).toInt from by first | exact oz_1687f4cc65 e17 e47 | omega), (show (pf38 25).toInt = (pf 25).toInt from by first | exact oz_1687f4cc65 e18 e48 | omega), (show (pf38 26).toInt = (pf 26).toInt from by first | exact oz_1687f4cc65 e19 e49 | omega), (show FrB (pf 13).toInt na ma (va_up (va_up (va_up na39 16 (upd (na39 16) v42.toNatClampNeg z52)) 23 (upd ((va_up na39 16 (upd (na39 16) v42.toNatClampNeg z52)) 23) v42.toNatClampNeg z54)) 17 (upd ((va_up (va_up na39 16 (upd (na39 16) v42.toNatClampNeg z52)) 23 (upd ((va_up na39 16 (upd (na39 16) v42.toNatClampNeg z52)) 23) v42.toNatClampNeg z54)) 17) v42.toNatClampNeg v10)) ma40 from (FrB.un (FrB.un (FrB.un hfb (by first | with_reducible rfl | with_reducible assumption | omega) (by first | with_reducible rfl | with_reducible assumption | omega)) (by first | with_reducible rfl | with_reducible assumption | omega) (by first | with_reducible rfl | with_reducible assumption | omega)) (by first | with_reducible rfl | with_reducible assumption | omega) (by first | with_reducible rfl | with_reducible assumption | omega))), (show FrW (pf 26).toInt wa wa8 from hfw), (show ExR ta (tf 6).toInt (va_up (va_up (va_up na39 16 (upd (na39 16) v42.toNatClampNeg z52)) 23 (upd ((va_up na39 16 (upd (na39 16) v42.toNatClampNeg z52)) 23) v42.toNatClampNeg z54)) 17 (upd ((va_up (va_up na39 16 (upd (na39 16) v42.toNatClampNeg z52)) 23 (upd ((va_up na39 16 (upd (na39 16) v42.toNatClampNeg z52)) 23) v42.toNatClampNeg z54)) 17) v42.toNatClampNeg v10)) ma40 v42 (pf 13).toInt (pf38 13).toInt (3 * (bp ta z56 - bp ta (pf 11))) (pf 12).toInt from (ExR.le (exr_up ht_v10 (by first | with_reducible rfl | with_reducible assumption | omega) (fun x hx => ⟨fun j => by rw [up_far hx, up_far hx, up_far hx], fun _ => rfl⟩) (by first | with_reducible rfl | with_reducible assumption | omega) (Or.inr (by rw [va_up_n (by decide), va_up_n (by decide), va_up_n (by decide), hnk_v42.1]; rfl)) (ndt_of (by rw [va_up_n (by decide), va_up_n (by decide), va_up_n (by decide), hnk_v42.2.1]) (by first | with_reducible rfl | with_reducible assumption | omega) (by first | with_reducible rfl | with_reducible assumption | omega) (by first | with_reducible rfl | with_reducible assumption | omega)) (by rw [va_up_s, pk_us]) (fun h5 => absurd h5 (by rw [va_up_n (by decide), va_up_n (by decide), va_up_n (by decide), hnk_v42.1]; decide)) (by rw [dp_un (by decide), dp_us]; omega) (by rw [dp_un (by decide), dp_us]; omega) (by rw [dp_un (by decide), dp_us]; omega) ⟨(by rw [va_up_n (by decide), va_up_n (by decide), va_up_n (by decide), hnk_v42.2.2.1]; decide), (by rw [hnk_v42.2.2.2.2]; decide)⟩) (by first | with_reducible rfl | with_reducible assumption | omega) (by first | with_reducible rfl | with_reducible assumption | omega) (by first | with_reducible rfl | with_reducible assumption | omega) (Int.le_refl _))), (show FsI (tf 6).toInt (pf38 13).toInt (va_up (va_up (va_up na39 16 (upd (na39 16) v42.toNatClampNeg z52)) 23 (upd ((va_up na39 16 (upd (na39 16) v42.toNatClampNeg z52)) 23) v42.toNatClampNeg z54)) 17 (upd ((va_up (va_up na39 16 (upd (na39 16) v42.toNatClampNeg z52)) 23 (upd ((va_up na39 16 (upd (na39 16) v42.toNatClampNeg z52)) 23) v42.toNatClampNeg z54)) 17) v42.toNatClampNeg v10)) from (FsI.le (FsI.un (FsI.un (FsI.us hfs (by first | with_reducible rfl | with_reducible assumption | omega) (by first | with_reducible rfl | with_reducible assumption | omega)) (by decide)) (by decide)) (by first | with_reducible rfl | with_reducible assumption | omega)))⟩) d_Mpg_postfix_85
  · have nc31 : v28.toInt = (0 : Int) := (i_eq (x := v28) (y := 0)).mp c31
    refine lv_aload_n S.x S.b d_Mpg_postfix_14 rfl (lv_at hl 1 rfl) ?_
    obtain ⟨sk57, hRsk57, st58, sb59, hSsk57⟩ := oP_lit hP (k := 85) (tx := "--") (n := 2) (List.mem_of_getElem? (i := 34) rfl)
    refine va_ldcS S.x S.b S.own hRsk57 d_Mpg_postfix_15 ?_
    refine px_calli (pr := []) (px_runV (As := [.ref sk57]) (rest := []) S (c_mp_is l D cs sk57 2 h r g tf ta pf5 na6 ma7 wa8 cf ca ef ea xf xa   (show 0 ≤ (pf5 11).toInt from by first | exact oz_06d7f15a5c e11 g0 | omega) (show (pf5 11).toInt < (tf 6).toInt from by first | exact e12 | omega) (show (tf 6).toInt ≤ 2049 from by first | exact g2 | omega) (show 2 ≤ 100 from by first | decide | omega) htk _) hT (pr := []) (pcs := [wdP cs h r g tf ta pf5 na6 ma7 wa8 cf ca ef ea xf xa]) hw (oX_call (P := (fun A U H => (oP A g U H) ∧ (StS A sk57 2 U H))) (pr := []) (oG_and oG_P oG_Q) hw hA ⟨hP, ⟨_, _, hSsk57⟩⟩) (px_recv hT hw 0 0 rfl rfl rfl) m11_217 m11_214 m11_216 ms_8_14 m1_21 q_Mpg_is ⟨show 3 + 1 ≤ (8 * lv + 16) from by first | with_reducible rfl | with_reducible assumption | omega, show 8 + (2 + 11) + 120 ≤ (220 * lv + 600) from by first | with_reducible rfl | with_reducible assumption | omega⟩ hl.1 rfl (Nat.le_of_ble_eq_true rfl) d_Mpg_postfix_17 ⟨Nat.le_of_ble_eq_true rfl, Nat.le_of_ble_eq_true rfl⟩) hw hA (fun v61 p60 H locs hp60 hw => ?_)
    obtain ⟨rfl, e62, e63⟩ := hp60
    have e62 := z_rng e62
    have e63 : v61.toInt = 1 → (pf5 11).toInt + 1 < (tf 6).toInt ∧ so ta (pf5 11) = 5 := e63
    have hw : pw D A s.heap H locs [wdP cs h r g tf ta pf5 na6 ma7 wa8 cf ca ef ea xf xa] := hw
    have lv61 := Int32.le_toInt v61
    have uv61 := Int32.toInt_lt v61
    refine lv_if_eq (tgt := 84) S.x S.b d_Mpg_postfix_20 (by decide) (fun c64 => ?_) (fun c64 => ?_)
    · have nc64 : v61.toInt = (0 : Int) := (i_eq (x := v61) (y := 0)).mp c64
      refine lv_iload_n S.x S.b d_Mpg_postfix_84 rfl (lv_at hl 0 rfl) ?_
      exact th_iret (v := v10) S hr rfl hlk hAe hw (⟨pf5, na6, ma7, wa8, rfl, (show (pf 11).toInt + 1 ≤ (pf5 11).toInt from by first | exact e11 | omega), (show (pf5 11).toInt < (tf 6).toInt from by first | exact e12 | omega), (show (pf 13).toInt + 1 ≤ (pf5 13).toInt from by first | exact e13 | omega), (show (pf5 13).toInt - (pf 13).toInt ≤ (pf5 11).toInt - (pf 11).toInt from by first | exact e14 | omega), (show bp ta (pf 11) + 1 ≤ bp ta (pf5 11) from by first | exact e15 | omega), (show (pf5 12).toInt = (pf 12).toInt from by first | exact e16 | omega), (show (pf5 24).toInt = (pf 24).toInt from by first | exact e17 | omega), (show (pf5 25).toInt = (pf 25).toInt from by first | exact e18 | omega), (show (pf5 26).toInt = (pf 26).toInt from by first | exact e19 | omega), (show FrB (pf 13).toInt na ma na6 ma7 from hfb), (show FrW (pf 26).toInt wa wa8 from hfw), (show ExR ta (tf 6).toInt na6 ma7 v10 (pf 13).toInt (pf5 13).toInt (3 * (bp ta (pf5 11) - bp ta (pf 11))) (pf 12).toInt from (ExR.le ht_v10 (by first | with_reducible rfl | with_reducible assumption | omega) (by first | with_reducible rfl | with_reducible assumption | omega) (by first | with_reducible rfl | with_reducible assumption | omega) (by first | with_reducible rfl | with_reducible assumption | omega))), (show FsI (tf 6).toInt (pf5 13).toInt na6 from (FsI.le hfs (by first | with_reducible rfl | with_reducible assumption | omega)))⟩) d_Mpg_postfix_85
    · have nc64 : ¬ v61.toInt = (0 : Int) := mt (i_eq (x := v61) (y := 0)).mpr c64
      refine lv_aload_n S.x S.b d_Mpg_postfix_23 rfl (lv_at hl 1 rfl) ?_
      refine lv_iload_n S.x S.b d_Mpg_postfix_24 rfl (lv_at hl 0 rfl) ?_
      refine th_callv (ps0 := [wdP cs h r g tf ta pf na ma wa cf ca ef ea xf xa]) (pr := []) (pcs := [wdP cs h r g tf ta pf5 na6 ma7 wa8 cf ca ef ea xf xa]) (As := [.int v10]) (rest := []) (c_mp_stands l D cs h r g tf ta pf5 na6 ma7 wa8 cf ca ef ea xf xa v10  (show 0 ≤ (pf5 11).toInt from by first | exact oz_06d7f15a5c e11 g0 | omega) (show (pf5 11).toInt < (tf 6).toInt from by first | exact e12 | omega) (show 0 ≤ v10.toInt from by first | exact oz_0ed16e126f hn_ht_v10.1 g5 | omega) (show v10.toInt < 2100 from by first | exact oz_e21a3628b7 hn_ht_v10.2.1 g6 e14 e12 g2 | omega) (show 0 ≤ dp na6 v10 from by first | with_reducible rfl | with_reducible assumption | omega) (show dp na6 v10 ≤ 1000 from by first | with_reducible rfl | with_reducible assumption | omega) (show 0 ≤ (pf5 12).toInt from by first | exact oz_f3ebed1ad0 e16 g3 | omega) (show (pf5 12).toInt ≤ 60 from by first | exact oz_a3db38fa3c e16 g4 | omega) hlf htk) S hT hw (oX_call (P := (fun A U H => (oN A U H) ∧ (oP A g U H))) (pr := []) (oG_and oG_N oG_P) hw hA ⟨hN, hP⟩) (px_recv hT hw 0 0 rfl rfl rfl) m12_46 m12_43 m12_45 ms_9_13 m1_21 q_Mpg_stands2 ⟨show 7 + 1 ≤ (8 * lv + 16) from by first | with_reducible rfl | with_reducible assumption | omega, show 8 + (2 + 11) + 150 ≤ (220 * lv + 600) from by first | with_reducible rfl | with_reducible assumption | omega⟩ hl.1 rfl (Nat.le_of_ble_eq_true rfl) d_Mpg_postfix_25 ⟨Nat.le_of_ble_eq_true rfl, Nat.le_of_ble_eq_true rfl⟩ hne hlk hA hAe (fun o t h => Or.inr h) ?_ (fun p65 H locs hp65 hw => ?_)
      · exact fun p1 H1 locs1 hp hw => by obtain ⟨pq1, pq2, pq3, pq4, rfl, hq1, hq2⟩ := hp; exact ⟨_, ⟨pq1, pq2, pq3, pq4, rfl, hq1, hq2⟩, hw⟩
      obtain ⟨rfl, e67⟩ := hp65
      have e67 : (pf5 12).toInt + dp na6 v10 < 60 := e67
      have hw : pw D A s.heap H locs [wdP cs h r g tf ta pf5 na6 ma7 wa8 cf ca ef ea xf xa] := hw
      refine lv_aload_n S.x S.b d_Mpg_postfix_28 rfl (lv_at hl 1 rfl) ?_
      refine lv_bipush (v := 6) S.x S.b d_Mpg_postfix_29 (by decide) ?_
      refine lv_aload_n S.x S.b d_Mpg_postfix_31 rfl (lv_at hl 1 rfl) ?_
      refine px_get S k_Mpg hT hw 0 0 11 (v := .int (pf5 11)) rfl rfl rfl (by decide) m9_235 d_Mpg_postfix_32 ?_
      refine px_calli (pr := []) (px_runV (As := [.int 6, .int (pf5 11)]) (rest := []) S (c_mp_make l D cs h r g tf ta wa8 cf ca ef ea xf xa pf5 na6 ma7 6 (pf5 11)  (show 0 ≤ (pf5 13).toInt from by first | exact oz_06d7f15a5c e13 g5 | omega) (show (pf5 13).toInt < 2100 from by first | exact oz_b44eecbc2a e14 g6 e12 g2 | omega) _) hT (pr := []) (pcs := [wdP cs h r g tf ta pf5 na6 ma7 wa8 cf ca ef ea xf xa]) hw px_X.tt (px_recv hT hw 0 0 rfl rfl rfl) m11_209 m11_206 m11_208 ms_8_12 m1_21 q_Mpg_make ⟨show 0 + 1 ≤ (8 * lv + 16) from by first | with_reducible rfl | with_reducible assumption | omega, show 8 + (3 + 11) + 0 ≤ (220 * lv + 600) from by first | with_reducible rfl | with_reducible assumption | omega⟩ hl.1 rfl (Nat.le_of_ble_eq_true rfl) d_Mpg_postfix_35 ⟨Nat.le_of_ble_eq_true rfl, Nat.le_of_ble_eq_true rfl⟩) hw hA (fun v75 p74 H locs hp74 hw => ?_)
      obtain ⟨pf71, na72, ma73, rfl, e76, e77, e78, e79, e80, e81, e82, e83⟩ := hp74
      have e76 : v75.toInt = (pf5 13).toInt := e76
      have e77 : (pf71 13).toInt = (pf5 13).toInt + 1 := e77
      have e78 : (pf71 11).toInt = (pf5 11).toInt := e78
      have e79 : (pf71 12).toInt = (pf5 12).toInt := e79
      have e80 : (pf71 24).toInt = (pf5 24).toInt := e80
      have e81 : (pf71 25).toInt = (pf5 25).toInt := e81
      have e82 : (pf71 26).toInt = (pf5 26).toInt := e82
      have e83 : MkN na6 ma7 na72 ma73 v75 (6 : Int32) (pf5 11) := e83
      obtain ⟨qb841, qb842, qb843, qb844⟩ := tk_eq (ta := ta) (x := (pf71 11)) (y := (pf5 11)) (by first | with_reducible rfl | with_reducible assumption | omega)
      have hmk_v75 := e83
      have hfm_v75 := MkN.frb (b := v75.toInt) hmk_v75 (by first | with_reducible rfl | with_reducible assumption | omega) (by first | with_reducible rfl | with_reducible assumption | omega)
      have ht_v10 := ht_v10.kp (FrB.le hfm_v75 (by first | with_reducible rfl | with_reducible assumption | omega)) (by first | with_reducible rfl | with_reducible assumption | omega)
      have hn_ht_v10 := ht_v10.num
      have hdq_v10 := dp_fb (x := v10) hfm_v75 (by first | with_reducible rfl | with_reducible assumption | omega) (by first | with_reducible rfl | with_reducible assumption | omega)
      have hfs := FsI.mk hfs hmk_v75 (by first | with_reducible rfl | with_reducible assumption | omega) (by first | with_reducible rfl | with_reducible assumption | omega) (by first | with_reducible rfl | with_reducible assumption | omega) (by first | with_reducible rfl | with_reducible assumption | omega)
      have hfb := hfb.tr hfm_v75 (by first | with_reducible rfl | with_reducible assumption | omega)
      have hnk_v75 := hmk_v75.nk (by decide) (by decide) (by first | with_reducible rfl | with_reducible assumption | omega)
      have hdn_v75 := dp_nk hmk_v75
      have hw : pw D A s.heap H locs [wdP cs h r g tf ta pf71 na72 ma73 wa8 cf ca ef ea xf xa] := hw
      have lv75 := Int32.le_toInt v75
      have uv75 := Int32.toInt_lt v75
      refine lv_istore_n (lv' := [(2, .int v75), (1, .int v10), (0, .ref h)]) S.x S.b d_Mpg_postfix_38 rfl hl (by decide) rfl (fun ls hl => ?_)
      refine lv_aload_n S.x S.b d_Mpg_postfix_39 rfl (lv_at hl 2 rfl) ?_
      refine px_get S k_Mpg hT hw 0 0 16 (v := .ref (r 16)) rfl rfl rfl (by decide) m10_0 d_Mpg_postfix_40 ?_
      refine lv_iload_n S.x S.b d_Mpg_postfix_43 rfl (lv_at hl 0 rfl) ?_
      refine lv_aload_n S.x S.b d_Mpg_postfix_44 rfl (lv_at hl 2 rfl) ?_
      refine px_get S k_Mpg hT hw 0 0 16 (v := .ref (r 16)) rfl rfl rfl (by decide) m10_0 d_Mpg_postfix_45 ?_
      refine lv_iload_n S.x S.b d_Mpg_postfix_48 rfl (lv_at hl 1 rfl) ?_
      refine px_iald S hT hw 0 12 (n := 2100) (f := (na72 16)) rfl gp_16 (x := v10) (vp_in_iff.mpr (by constructor <;> omega)) d_Mpg_postfix_49 ?_
      refine lv_topi (fun z85 ez85 => ?_)
      have lz85 := Int32.le_toInt z85
      have uz85 := Int32.toInt_lt z85
      have rz85 := FsI.at hfs (x := v10) (by first | with_reducible rfl | with_reducible assumption | omega) (by first | with_reducible rfl | with_reducible assumption | omega) ez85
      refine px_iast S hT hw 0 12 (n := 2100) (f := (na72 16)) (x := v75) (y := z85) rfl gp_16 (vp_in_iff.mpr (by constructor <;> omega)) d_Mpg_postfix_50 (w' := wdP cs h r g tf ta pf71 (va_up na72 16 (upd (na72 16) v75.toNatClampNeg z85)) ma73 wa8 cf ca ef ea xf xa) (ps' := [wdP cs h r g tf ta pf71 (va_up na72 16 (upd (na72 16) v75.toNatClampNeg z85)) ma73 wa8 cf ca ef ea xf xa]) sp_16 rfl (fun H locs hw => ?_)
      refine lv_aload_n S.x S.b d_Mpg_postfix_51 rfl (lv_at hl 2 rfl) ?_
      refine px_get S k_Mpg hT hw 0 0 23 (v := .ref (r 23)) rfl rfl rfl (by decide) m10_11 d_Mpg_postfix_52 ?_
      refine lv_iload_n S.x S.b d_Mpg_postfix_55 rfl (lv_at hl 0 rfl) ?_
      refine lv_iconst (v := 1) S.x S.b d_Mpg_postfix_56 (by decide) ?_
      refine lv_aload_n S.x S.b d_Mpg_postfix_57 rfl (lv_at hl 2 rfl) ?_
      refine px_get S k_Mpg hT hw 0 0 23 (v := .ref (r 23)) rfl rfl rfl (by decide) m10_11 d_Mpg_postfix_58 ?_
      refine lv_iload_n S.x S.b d_Mpg_postfix_61 rfl (lv_at hl 1 rfl) ?_
      refine px_iald S hT hw 0 19 (n := 2100) (f := ((va_up na72 16 (upd (na72 16) v75.toNatClampNeg z85)) 23)) rfl gp_23 (x := v10) (vp_in_iff.mpr (by constructor <;> omega)) d_Mpg_postfix_62 ?_
      refine lv_topi (fun z86 ez86 => ?_)
      have lz86 := Int32.le_toInt z86
      have uz86 := Int32.toInt_lt z86
      have rz86 : z86.toInt = dp na72 v10 := by have q9 : z86.toInt = dp (va_up na72 16 (upd (na72 16) v75.toNatClampNeg z85)) v10 := (by rw [ez86]; rfl); rw [dp_un (by decide)] at q9; exact q9
      refine lv_iadd S.x S.b d_Mpg_postfix_63 ?_
      refine lv_topi (fun z87 ez87 => ?_)
      have tz87 : z87.toInt = ((1 : Int) + z86.toInt + 2147483648) % 4294967296 - 2147483648 := by rw [ez87]; exact i_add 1 z86
      have lz87 := Int32.le_toInt z87
      have uz87 := Int32.toInt_lt z87
      try replace tz87 : z87.toInt = (1 : Int) + z86.toInt := by omega
      refine px_iast S hT hw 0 19 (n := 2100) (f := ((va_up na72 16 (upd (na72 16) v75.toNatClampNeg z85)) 23)) (x := v75) (y := z87) rfl gp_23 (vp_in_iff.mpr (by constructor <;> omega)) d_Mpg_postfix_64 (w' := wdP cs h r g tf ta pf71 (va_up (va_up na72 16 (upd (na72 16) v75.toNatClampNeg z85)) 23 (upd ((va_up na72 16 (upd (na72 16) v75.toNatClampNeg z85)) 23) v75.toNatClampNeg z87)) ma73 wa8 cf ca ef ea xf xa) (ps' := [wdP cs h r g tf ta pf71 (va_up (va_up na72 16 (upd (na72 16) v75.toNatClampNeg z85)) 23 (upd ((va_up na72 16 (upd (na72 16) v75.toNatClampNeg z85)) 23) v75.toNatClampNeg z87)) ma73 wa8 cf ca ef ea xf xa]) sp_23 rfl (fun H locs hw => ?_)
      refine lv_aload_n S.x S.b d_Mpg_postfix_65 rfl (lv_at hl 2 rfl) ?_
      refine px_get S k_Mpg hT hw 0 0 17 (v := .ref (r 17)) rfl rfl rfl (by decide) m10_1 d_Mpg_postfix_66 ?_
      refine lv_iload_n S.x S.b d_Mpg_postfix_69 rfl (lv_at hl 0 rfl) ?_
      refine lv_iload_n S.x S.b d_Mpg_postfix_70 rfl (lv_at hl 1 rfl) ?_
      refine px_iast S hT hw 0 13 (n := 2100) (f := ((va_up (va_up na72 16 (upd (na72 16) v75.toNatClampNeg z85)) 23 (upd ((va_up na72 16 (upd (na72 16) v75.toNatClampNeg z85)) 23) v75.toNatClampNeg z87)) 17)) (x := v75) (y := v10) rfl gp_17 (vp_in_iff.mpr (by constructor <;> omega)) d_Mpg_postfix_71 (w' := wdP cs h r g tf ta pf71 (va_up (va_up (va_up na72 16 (upd (na72 16) v75.toNatClampNeg z85)) 23 (upd ((va_up na72 16 (upd (na72 16) v75.toNatClampNeg z85)) 23) v75.toNatClampNeg z87)) 17 (upd ((va_up (va_up na72 16 (upd (na72 16) v75.toNatClampNeg z85)) 23 (upd ((va_up na72 16 (upd (na72 16) v75.toNatClampNeg z85)) 23) v75.toNatClampNeg z87)) 17) v75.toNatClampNeg v10)) ma73 wa8 cf ca ef ea xf xa) (ps' := [wdP cs h r g tf ta pf71 (va_up (va_up (va_up na72 16 (upd (na72 16) v75.toNatClampNeg z85)) 23 (upd ((va_up na72 16 (upd (na72 16) v75.toNatClampNeg z85)) 23) v75.toNatClampNeg z87)) 17 (upd ((va_up (va_up na72 16 (upd (na72 16) v75.toNatClampNeg z85)) 23 (upd ((va_up na72 16 (upd (na72 16) v75.toNatClampNeg z85)) 23) v75.toNatClampNeg z87)) 17) v75.toNatClampNeg v10)) ma73 wa8 cf ca ef ea xf xa]) sp_17 rfl (fun H locs hw => ?_)
      refine lv_iload_n S.x S.b d_Mpg_postfix_72 rfl (lv_at hl 0 rfl) ?_
      refine lv_istore_n (lv' := [(1, .int v75), (2, .int v75), (0, .ref h)]) S.x S.b d_Mpg_postfix_73 rfl hl (by decide) rfl (fun ls hl => ?_)
      refine lv_aload_n S.x S.b d_Mpg_postfix_74 rfl (lv_at hl 2 rfl) ?_
      refine lv_dup S.x S.b d_Mpg_postfix_75 rfl ?_
      refine px_get S k_Mpg hT hw 0 0 11 (v := .int (pf71 11)) rfl rfl rfl (by decide) m9_235 d_Mpg_postfix_76 ?_
      refine lv_iconst (v := 1) S.x S.b d_Mpg_postfix_79 (by decide) ?_
      refine lv_iadd S.x S.b d_Mpg_postfix_80 ?_
      have lr88 := Int32.le_toInt (pf71 11)
      have ur88 := Int32.toInt_lt (pf71 11)
      refine lv_topi (fun z89 ez89 => ?_)
      have tz89 : z89.toInt = ((pf71 11).toInt + (1 : Int) + 2147483648) % 4294967296 - 2147483648 := by rw [ez89]; exact i_add (pf71 11) 1
      have lz89 := Int32.le_toInt z89
      have uz89 := Int32.toInt_lt z89
      try replace tz89 : z89.toInt = (pf71 11).toInt + (1 : Int) := by omega
      have hnx80 := tk_n htk (x := (pf71 11)) (y := z89) (by first | with_reducible rfl | with_reducible assumption | omega) (by first | with_reducible rfl | with_reducible assumption | omega) (by first | with_reducible rfl | with_reducible assumption | omega)
      refine px_put S k_Mpg hT hw 0 0 11 rfl rfl (by decide) m9_235 rfl rfl rfl (Nat.le_of_ble_eq_true rfl) d_Mpg_postfix_81 (w' := wdP cs h r g tf ta (upd pf71 11 z89) (va_up (va_up (va_up na72 16 (upd (na72 16) v75.toNatClampNeg z85)) 23 (upd ((va_up na72 16 (upd (na72 16) v75.toNatClampNeg z85)) 23) v75.toNatClampNeg z87)) 17 (upd ((va_up (va_up na72 16 (upd (na72 16) v75.toNatClampNeg z85)) 23 (upd ((va_up na72 16 (upd (na72 16) v75.toNatClampNeg z85)) 23) v75.toNatClampNeg z87)) 17) v75.toNatClampNeg v10)) ma73 wa8 cf ca ef ea xf xa) (ps' := [wdP cs h r g tf ta (upd pf71 11 z89) (va_up (va_up (va_up na72 16 (upd (na72 16) v75.toNatClampNeg z85)) 23 (upd ((va_up na72 16 (upd (na72 16) v75.toNatClampNeg z85)) 23) v75.toNatClampNeg z87)) 17 (upd ((va_up (va_up na72 16 (upd (na72 16) v75.toNatClampNeg z85)) 23 (upd ((va_up na72 16 (upd (na72 16) v75.toNatClampNeg z85)) 23) v75.toNatClampNeg z87)) 17) v75.toNatClampNeg v10)) ma73 wa8 cf ca ef ea xf xa]) rfl rfl (fun H locs hw => ?_)
      refine lv_iload_n S.x S.b d_Mpg_postfix_84 rfl (lv_at hl 0 rfl) ?_
      exact th_iret (v := v75) S hr rfl hlk hAe hw (⟨(upd pf71 11 z89), (va_up (va_up (va_up na72 16 (upd (na72 16) v75.toNatClampNeg z85)) 23 (upd ((va_up na72 16 (upd (na72 16) v75.toNatClampNeg z85)) 23) v75.toNatClampNeg z87)) 17 (upd ((va_up (va_up na72 16 (upd (na72 16) v75.toNatClampNeg z85)) 23 (upd ((va_up na72 16 (upd (na72 16) v75.toNatClampNeg z85)) 23) v75.toNatClampNeg z87)) 17) v75.toNatClampNeg v10)), ma73, wa8, rfl, (show (pf 11).toInt + 1 ≤ z89.toInt from by first | exact oz_0928006ac4 e11 tz89 e78 | omega), (show z89.toInt < (tf 6).toInt from by first | with_reducible rfl | with_reducible assumption | omega), (show (pf 13).toInt + 1 ≤ (pf71 13).toInt from by first | exact oz_65cc19c39a e13 e77 | omega), (show (pf71 13).toInt - (pf 13).toInt ≤ z89.toInt - (pf 11).toInt from by first | exact oz_c182f2bf2c e14 e77 tz89 e78 | omega), (show bp ta (pf 11) + 1 ≤ bp ta z89 from by first | with_reducible rfl | with_reducible assumption | omega), (show (pf71 12).toInt = (pf 12).toInt from by first | exact oz_1687f4cc65 e16 e79 | omega), (show (pf71 24).toInt = (pf 24).toInt from by first | exact oz_1687f4cc65 e17 e80 | omega), (show (pf71 25).toInt = (pf 25).toInt from by first | exact oz_1687f4cc65 e18 e81 | omega), (show (pf71 26).toInt = (pf 26).toInt from by first | exact oz_1687f4cc65 e19 e82 | omega), (show FrB (pf 13).toInt na ma (va_up (va_up (va_up na72 16 (upd (na72 16) v75.toNatClampNeg z85)) 23 (upd ((va_up na72 16 (upd (na72 16) v75.toNatClampNeg z85)) 23) v75.toNatClampNeg z87)) 17 (upd ((va_up (va_up na72 16 (upd (na72 16) v75.toNatClampNeg z85)) 23 (upd ((va_up na72 16 (upd (na72 16) v75.toNatClampNeg z85)) 23) v75.toNatClampNeg z87)) 17) v75.toNatClampNeg v10)) ma73 from (FrB.un (FrB.un (FrB.un hfb (by first | with_reducible rfl | with_reducible assumption | omega) (by first | with_reducible rfl | with_reducible assumption | omega)) (by first | with_reducible rfl | with_reducible assumption | omega) (by first | with_reducible rfl | with_reducible assumption | omega)) (by first | with_reducible rfl | with_reducible assumption | omega) (by first | with_reducible rfl | with_reducible assumption | omega))), (show FrW (pf 26).toInt wa wa8 from hfw), (show ExR ta (tf 6).toInt (va_up (va_up (va_up na72 16 (upd (na72 16) v75.toNatClampNeg z85)) 23 (upd ((va_up na72 16 (upd (na72 16) v75.toNatClampNeg z85)) 23) v75.toNatClampNeg z87)) 17 (upd ((va_up (va_up na72 16 (upd (na72 16) v75.toNatClampNeg z85)) 23 (upd ((va_up na72 16 (upd (na72 16) v75.toNatClampNeg z85)) 23) v75.toNatClampNeg z87)) 17) v75.toNatClampNeg v10)) ma73 v75 (pf 13).toInt (pf71 13).toInt (3 * (bp ta z89 - bp ta (pf 11))) (pf 12).toInt from (ExR.le (exr_up ht_v10 (by first | with_reducible rfl | with_reducible assumption | omega) (fun x hx => ⟨fun j => by rw [up_far hx, up_far hx, up_far hx], fun _ => rfl⟩) (by first | with_reducible rfl | with_reducible assumption | omega) (Or.inr (by rw [va_up_n (by decide), va_up_n (by decide), va_up_n (by decide), hnk_v75.1]; rfl)) (ndt_of (by rw [va_up_n (by decide), va_up_n (by decide), va_up_n (by decide), hnk_v75.2.1]) (by first | with_reducible rfl | with_reducible assumption | omega) (by first | with_reducible rfl | with_reducible assumption | omega) (by first | with_reducible rfl | with_reducible assumption | omega)) (by rw [va_up_s, pk_us]) (fun h5 => absurd h5 (by rw [va_up_n (by decide), va_up_n (by decide), va_up_n (by decide), hnk_v75.1]; decide)) (by rw [dp_un (by decide), dp_us]; omega) (by rw [dp_un (by decide), dp_us]; omega) (by rw [dp_un (by decide), dp_us]; omega) ⟨(by rw [va_up_n (by decide), va_up_n (by decide), va_up_n (by decide), hnk_v75.2.2.1]; decide), (by rw [hnk_v75.2.2.2.2]; decide)⟩) (by first | with_reducible rfl | with_reducible assumption | omega) (by first | with_reducible rfl | with_reducible assumption | omega) (by first | with_reducible rfl | with_reducible assumption | omega) (Int.le_refl _))), (show FsI (tf 6).toInt (pf71 13).toInt (va_up (va_up (va_up na72 16 (upd (na72 16) v75.toNatClampNeg z85)) 23 (upd ((va_up na72 16 (upd (na72 16) v75.toNatClampNeg z85)) 23) v75.toNatClampNeg z87)) 17 (upd ((va_up (va_up na72 16 (upd (na72 16) v75.toNatClampNeg z85)) 23 (upd ((va_up na72 16 (upd (na72 16) v75.toNatClampNeg z85)) 23) v75.toNatClampNeg z87)) 17) v75.toNatClampNeg v10)) from (FsI.le (FsI.un (FsI.un (FsI.us hfs (by first | with_reducible rfl | with_reducible assumption | omega) (by first | with_reducible rfl | with_reducible assumption | omega)) (by decide)) (by decide)) (by first | with_reducible rfl | with_reducible assumption | omega)))⟩) d_Mpg_postfix_85
abbrev b_Mpg_unary : ByteArray := prog_16_method_38_code
def y_Mpg_unary : MethodName := ⟨"HomeSystemModel$Program", "unary", "()I"⟩
theorem d_Mpg_unary_0 : decode b_Mpg_unary 0 = .ok (.aload_n 0, 1) := by decide +kernel
theorem d_Mpg_unary_1 : decode b_Mpg_unary 1 = .ok (.getfield 360, 3) := by decide +kernel
theorem d_Mpg_unary_4 : decode b_Mpg_unary 4 = .ok (.istore_n 1, 1) := by decide +kernel
theorem d_Mpg_unary_5 : decode b_Mpg_unary 5 = .ok (.iconst 0, 1) := by decide +kernel
theorem d_Mpg_unary_6 : decode b_Mpg_unary 6 = .ok (.istore_n 2, 1) := by decide +kernel
theorem d_Mpg_unary_7 : decode b_Mpg_unary 7 = .ok (.aload_n 0, 1) := by decide +kernel
theorem d_Mpg_unary_8 : decode b_Mpg_unary 8 = .ok (.invokevirtual 430, 3) := by decide +kernel
theorem d_Mpg_unary_11 : decode b_Mpg_unary 11 = .ok (.ifCond .eq 13, 3) := by decide +kernel
theorem d_Mpg_unary_14 : decode b_Mpg_unary 14 = .ok (.aload_n 0, 1) := by decide +kernel
theorem d_Mpg_unary_15 : decode b_Mpg_unary 15 = .ok (.invokevirtual 383, 3) := by decide +kernel
theorem d_Mpg_unary_18 : decode b_Mpg_unary 18 = .ok (.iinc 2 1, 3) := by decide +kernel
theorem d_Mpg_unary_21 : decode b_Mpg_unary 21 = .ok (.goto (-14), 3) := by decide +kernel
theorem d_Mpg_unary_24 : decode b_Mpg_unary 24 = .ok (.aload_n 0, 1) := by decide +kernel
theorem d_Mpg_unary_25 : decode b_Mpg_unary 25 = .ok (.invokevirtual 433, 3) := by decide +kernel
theorem d_Mpg_unary_28 : decode b_Mpg_unary 28 = .ok (.istore_n 3, 1) := by decide +kernel
theorem d_Mpg_unary_29 : decode b_Mpg_unary 29 = .ok (.iload_n 1, 1) := by decide +kernel
theorem d_Mpg_unary_30 : decode b_Mpg_unary 30 = .ok (.iload_n 2, 1) := by decide +kernel
theorem d_Mpg_unary_31 : decode b_Mpg_unary 31 = .ok (.iadd, 1) := by decide +kernel
theorem d_Mpg_unary_32 : decode b_Mpg_unary 32 = .ok (.iconst 1, 1) := by decide +kernel
theorem d_Mpg_unary_33 : decode b_Mpg_unary 33 = .ok (.isub, 1) := by decide +kernel
theorem d_Mpg_unary_34 : decode b_Mpg_unary 34 = .ok (.istore 4, 2) := by decide +kernel
theorem d_Mpg_unary_36 : decode b_Mpg_unary 36 = .ok (.iload 4, 2) := by decide +kernel
theorem d_Mpg_unary_38 : decode b_Mpg_unary 38 = .ok (.iload_n 1, 1) := by decide +kernel
theorem d_Mpg_unary_39 : decode b_Mpg_unary 39 = .ok (.if_icmp .lt 62, 3) := by decide +kernel
theorem d_Mpg_unary_42 : decode b_Mpg_unary 42 = .ok (.aload_n 0, 1) := by decide +kernel
theorem d_Mpg_unary_43 : decode b_Mpg_unary 43 = .ok (.iconst 5, 1) := by decide +kernel
theorem d_Mpg_unary_44 : decode b_Mpg_unary 44 = .ok (.iload 4, 2) := by decide +kernel
theorem d_Mpg_unary_46 : decode b_Mpg_unary 46 = .ok (.invokevirtual 406, 3) := by decide +kernel
theorem d_Mpg_unary_49 : decode b_Mpg_unary 49 = .ok (.istore 5, 2) := by decide +kernel
theorem d_Mpg_unary_51 : decode b_Mpg_unary 51 = .ok (.aload_n 0, 1) := by decide +kernel
theorem d_Mpg_unary_52 : decode b_Mpg_unary 52 = .ok (.getfield 234, 3) := by decide +kernel
theorem d_Mpg_unary_55 : decode b_Mpg_unary 55 = .ok (.iload 5, 2) := by decide +kernel
theorem d_Mpg_unary_57 : decode b_Mpg_unary 57 = .ok (.aload_n 0, 1) := by decide +kernel
theorem d_Mpg_unary_58 : decode b_Mpg_unary 58 = .ok (.iload 4, 2) := by decide +kernel
theorem d_Mpg_unary_60 : decode b_Mpg_unary 60 = .ok (.invokevirtual 418, 3) := by decide +kernel
theorem d_Mpg_unary_63 : decode b_Mpg_unary 63 = .ok (.ifCond .eq 12, 3) := by decide +kernel
theorem d_Mpg_unary_66 : decode b_Mpg_unary 66 = .ok (.aload_n 0, 1) := by decide +kernel
theorem d_Mpg_unary_67 : decode b_Mpg_unary 67 = .ok (.getfield 234, 3) := by decide +kernel
theorem d_Mpg_unary_70 : decode b_Mpg_unary 70 = .ok (.iload_n 3, 1) := by decide +kernel
theorem d_Mpg_unary_71 : decode b_Mpg_unary 71 = .ok (.iaload, 1) := by decide +kernel
theorem d_Mpg_unary_72 : decode b_Mpg_unary 72 = .ok (.goto 11, 3) := by decide +kernel
theorem d_Mpg_unary_75 : decode b_Mpg_unary 75 = .ok (.iconst 1, 1) := by decide +kernel
theorem d_Mpg_unary_76 : decode b_Mpg_unary 76 = .ok (.aload_n 0, 1) := by decide +kernel
theorem d_Mpg_unary_77 : decode b_Mpg_unary 77 = .ok (.getfield 234, 3) := by decide +kernel
theorem d_Mpg_unary_80 : decode b_Mpg_unary 80 = .ok (.iload_n 3, 1) := by decide +kernel
theorem d_Mpg_unary_81 : decode b_Mpg_unary 81 = .ok (.iaload, 1) := by decide +kernel
theorem d_Mpg_unary_82 : decode b_Mpg_unary 82 = .ok (.iadd, 1) := by decide +kernel
theorem d_Mpg_unary_83 : decode b_Mpg_unary 83 = .ok (.iastore, 1) := by decide +kernel
theorem d_Mpg_unary_84 : decode b_Mpg_unary 84 = .ok (.aload_n 0, 1) := by decide +kernel
theorem d_Mpg_unary_85 : decode b_Mpg_unary 85 = .ok (.getfield 216, 3) := by decide +kernel
theorem d_Mpg_unary_88 : decode b_Mpg_unary 88 = .ok (.iload 5, 2) := by decide +kernel
theorem d_Mpg_unary_90 : decode b_Mpg_unary 90 = .ok (.iload_n 3, 1) := by decide +kernel
theorem d_Mpg_unary_91 : decode b_Mpg_unary 91 = .ok (.iastore, 1) := by decide +kernel
theorem d_Mpg_unary_92 : decode b_Mpg_unary 92 = .ok (.iload 5, 2) := by decide +kernel
theorem d_Mpg_unary_94 : decode b_Mpg_unary 94 = .ok (.istore_n 3, 1) := by decide +kernel
theorem d_Mpg_unary_95 : decode b_Mpg_unary 95 = .ok (.iinc 4 (-1), 3) := by decide +kernel
theorem d_Mpg_unary_98 : decode b_Mpg_unary 98 = .ok (.goto (-62), 3) := by decide +kernel
theorem d_Mpg_unary_101 : decode b_Mpg_unary 101 = .ok (.aload_n 0, 1) := by decide +kernel
theorem d_Mpg_unary_102 : decode b_Mpg_unary 102 = .ok (.aload_n 0, 1) := by decide +kernel
theorem d_Mpg_unary_103 : decode b_Mpg_unary 103 = .ok (.getfield 380, 3) := by decide +kernel
theorem d_Mpg_unary_106 : decode b_Mpg_unary 106 = .ok (.iload_n 2, 1) := by decide +kernel
theorem d_Mpg_unary_107 : decode b_Mpg_unary 107 = .ok (.isub, 1) := by decide +kernel
theorem d_Mpg_unary_108 : decode b_Mpg_unary 108 = .ok (.putfield 380, 3) := by decide +kernel
theorem d_Mpg_unary_111 : decode b_Mpg_unary 111 = .ok (.iload_n 3, 1) := by decide +kernel
theorem d_Mpg_unary_112 : decode b_Mpg_unary 112 = .ok (.ireturn, 1) := by decide +kernel
theorem q_Mpg_unary : px_y y_Mpg_unary 0 := by unfold px_y; decide +kernel
set_option maxHeartbeats 4000000 in
set_option maxRecDepth 100000 in
theorem c_mp_unary (l : Launch) (D : va_G) (cs : Nat → ClassId) (h : Nat) (r : Nat → Nat) (g : Nat → Nat → Option Nat) (tf : Nat → Int32) (ta : Nat → Nat → Int32) (cf : Nat → Int32) (ca : Nat → Nat → Int32) (ef : Nat → Int32) (ea : Nat → Nat → Int32) (xf : Nat → Int32) (xa : Nat → Nat → Int32) (pf : Nat → Int32) (na : Nat → Nat → Int32) (ma : Nat → Nat → Int32) (wa : Nat → Nat → Int32) (lv : Nat) (g0 : 0 ≤ (pf 11).toInt) (g1 : (pf 11).toInt < (tf 6).toInt) (g2 : (tf 6).toInt ≤ 2049) (g3 : 0 ≤ (pf 12).toInt) (g4 : (pf 12).toInt ≤ 60) (g5 : 0 ≤ (pf 13).toInt) (g6 : (pf 13).toInt ≤ (pf 11).toInt + 20) (g7 : 0 ≤ (pf 26).toInt) (g8 : (pf 26).toInt ≤ (pf 12).toInt) (g9 : 61 ≤ (pf 12).toInt + (lv : Int)) (g10 : lv ≤ 61) (hlf : l.flags = pinnedFlags ++ [noTraceFlag]) (htk : TkI tf ta) (hfs : FsI (tf 6).toInt (pf 13).toInt na) (hE : LvE l D cs lv) : ThI l y_Mpg_unary b_Mpg_unary 6 (.int) D cs (8 * lv + 17) (220 * lv + 630) [.ref h] [wdP cs h r g tf ta pf na ma wa cf ca ef ea xf xa] (oX (fun A U H => (oN A U H) ∧ (oP A g U H)) [wdP cs h r g tf ta pf na ma wa cf ca ef ea xf xa]) "java/lang/IllegalArgumentException" (fun v ps => ∃ (pf' : Nat → Int32) (na' : Nat → Nat → Int32) (ma' : Nat → Nat → Int32) (wa' : Nat → Nat → Int32), (ps = [wdP cs h r g tf ta pf' na' ma' wa' cf ca ef ea xf xa]) ∧ ((pf 11).toInt + 1 ≤ (pf' 11).toInt) ∧ ((pf' 11).toInt < (tf 6).toInt) ∧ ((pf 13).toInt + 1 ≤ (pf' 13).toInt) ∧ ((pf' 13).toInt - (pf 13).toInt ≤ (pf' 11).toInt - (pf 11).toInt) ∧ (bp ta (pf 11) + 1 ≤ bp ta (pf' 11)) ∧ ((pf' 12).toInt = (pf 12).toInt) ∧ ((pf' 24).toInt = (pf 24).toInt) ∧ ((pf' 25).toInt = (pf 25).toInt) ∧ ((pf' 26).toInt = (pf 26).toInt) ∧ (FrB (pf 13).toInt na ma na' ma') ∧ (FrW (pf 26).toInt wa wa') ∧ (ExR ta (tf 6).toInt na' ma' v (pf 13).toInt (pf' 13).toInt (3 * (bp ta (pf' 11) - bp ta (pf 11))) (pf 12).toInt) ∧ (FsI (tf 6).toInt (pf' 13).toInt na')) (fun ps => ∃ (pf' : Nat → Int32) (na' : Nat → Nat → Int32) (ma' : Nat → Nat → Int32) (wa' : Nat → Nat → Int32), ps = [wdP cs h r g tf ta pf' na' ma' wa' cf ca ef ea xf xa] ∧ 0 ≤ (pf' 11).toInt ∧ (pf' 11).toInt + 1 ≤ (tf 6).toInt) := by
  refine th_enter (by decide) (Nat.le_of_ble_eq_true rfl) ?_
  intro p e s m below meth c A ls hAe S hr hlk hnm hA hT hX hw hl hne hadm
  have hl : lv_has ls 6 [(0, .ref h)] := hl
  have cst0 : (0 : Int32).toInt = 0 := rfl
  have cst1 : (1 : Int32).toInt = 1 := rfl
  have cst5 : (5 : Int32).toInt = 5 := rfl
  have hX : (fun A U H => (oN A U H) ∧ (oP A g U H)) A s s.heap := by rw [hAe]; exact hX
  obtain ⟨hN, hP⟩ := hX
  have hZ := hP.1
  have hF0 := hP.2.1
  have hfb : FrB (pf 13).toInt na ma na ma := FrB.rf
  have hfw : FrW (pf 26).toInt wa wa := FrW.rf
  have J36 : ∀ (n_36 : Nat) (pf_36 : Nat → Int32) (na_36 : Nat → Nat → Int32) (ma_36 : Nat → Nat → Int32) (wa_36 : Nat → Nat → Int32) (x36_1 x36_2 x36_3 x36_4 : Int32) (H : Heap) (locs : List Loc) (ls : Array Slot), ((pf_36 24).toInt = (pf 24).toInt) → ((pf_36 25).toInt = (pf 25).toInt) → ((pf_36 26).toInt = (pf 26).toInt) → (x36_1.toInt = (pf 11).toInt) → (0 ≤ x36_2.toInt) → (x36_2.toInt ≤ 60) → ((pf_36 12).toInt = (pf 12).toInt + x36_2.toInt) → (x36_1.toInt - 1 ≤ x36_4.toInt) → (x36_4.toInt < x36_1.toInt + x36_2.toInt) → ((pf 11).toInt + 1 ≤ (pf_36 11).toInt) → ((pf_36 11).toInt < (tf 6).toInt) → ((pf 11).toInt + x36_2.toInt < (tf 6).toInt) → ((pf 13).toInt + 1 ≤ (pf_36 13).toInt) → ((pf_36 13).toInt - (pf 13).toInt ≤ (pf_36 11).toInt - (pf 11).toInt - (x36_4.toInt + 1 - x36_1.toInt)) → (bp ta (pf 11) + 1 ≤ bp ta (pf_36 11)) → (FrB (pf 13).toInt na ma na_36 ma_36) → (FrW (pf 26).toInt wa wa_36) → (Mks ta (pf 11).toInt ((pf 11).toInt + x36_2.toInt)) → (ExR ta (tf 6).toInt na_36 ma_36 x36_3 (pf 13).toInt (pf_36 13).toInt (3 * (bp ta (pf_36 11) - bp ta (pf 11)) - 3 * (x36_4.toInt + 1 - x36_1.toInt)) ((pf 12).toInt + (x36_4.toInt + 1 - x36_1.toInt))) → (FsI (tf 6).toInt (pf_36 13).toInt na_36) → x36_4.toInt - x36_1.toInt + 1 < (n_36 : Int) → pw D A s.heap H locs [wdP cs h r g tf ta pf_36 na_36 ma_36 wa_36 cf ca ef ea xf xa] → lv_has ls 6 [(0, .ref h), (1, .int x36_1), (2, .int x36_2), (3, .int x36_3), (4, .int x36_4)] → W p l e { frames := (8 * lv + 17), cells := 1, slots := 6, locals := (220 * lv + 630) } s m [.ref h].toArray below meth c H locs 0 0 (tx_MQ below (thQi D (va_A ([wdP cs h r g tf ta pf na ma wa cf ca ef ea xf xa] : List va_W).flatten s.heap.size) "java/lang/IllegalArgumentException" (fun v ps => ∃ (pf' : Nat → Int32) (na' : Nat → Nat → Int32) (ma' : Nat → Nat → Int32) (wa' : Nat → Nat → Int32), (ps = [wdP cs h r g tf ta pf' na' ma' wa' cf ca ef ea xf xa]) ∧ ((pf 11).toInt + 1 ≤ (pf' 11).toInt) ∧ ((pf' 11).toInt < (tf 6).toInt) ∧ ((pf 13).toInt + 1 ≤ (pf' 13).toInt) ∧ ((pf' 13).toInt - (pf 13).toInt ≤ (pf' 11).toInt - (pf 11).toInt) ∧ (bp ta (pf 11) + 1 ≤ bp ta (pf' 11)) ∧ ((pf' 12).toInt = (pf 12).toInt) ∧ ((pf' 24).toInt = (pf 24).toInt) ∧ ((pf' 25).toInt = (pf 25).toInt) ∧ ((pf' 26).toInt = (pf 26).toInt) ∧ (FrB (pf 13).toInt na ma na' ma') ∧ (FrW (pf 26).toInt wa wa') ∧ (ExR ta (tf 6).toInt na' ma' v (pf 13).toInt (pf' 13).toInt (3 * (bp ta (pf' 11) - bp ta (pf 11))) (pf 12).toInt) ∧ (FsI (tf 6).toInt (pf' 13).toInt na')) (fun ps => ∃ (pf' : Nat → Int32) (na' : Nat → Nat → Int32) (ma' : Nat → Nat → Int32) (wa' : Nat → Nat → Int32), ps = [wdP cs h r g tf ta pf' na' ma' wa' cf ca ef ea xf xa] ∧ 0 ≤ (pf' 11).toInt ∧ (pf' 11).toInt + 1 ≤ (tf 6).toInt) s.heap.size (tot s.heap)) [.ref h].toArray s 1 6 A) (F0 m 36 ls []) := by
    intro  n_36
    induction n_36 with
    | zero =>
      intro pf_36 na_36 ma_36 wa_36 x36_1 x36_2 x36_3 x36_4 H locs ls k36_0 k36_1 k36_2 k36_3 k36_4 k36_5 k36_6 k36_7 k36_8 k36_9 k36_10 k36_11 k36_12 k36_13 k36_14 k36_15 k36_16 k36_17 k36_18 k36_19 hm hw hl
      have lx36_1 := Int32.le_toInt x36_1
      have ux36_1 := Int32.toInt_lt x36_1
      have lx36_2 := Int32.le_toInt x36_2
      have ux36_2 := Int32.toInt_lt x36_2
      have lx36_3 := Int32.le_toInt x36_3
      have ux36_3 := Int32.toInt_lt x36_3
      have lx36_4 := Int32.le_toInt x36_4
      have ux36_4 := Int32.toInt_lt x36_4
      have hfb := k36_15
      have hfw := k36_16
      have hmks := k36_17
      have ht_x36_3 := k36_18
      have hn_ht_x36_3 := ht_x36_3.num
      have hfs := k36_19
      exact absurd hm (by first | with_reducible rfl | with_reducible assumption | omega)
    | succ n_36 ih36 =>
      intro pf_36 na_36 ma_36 wa_36 x36_1 x36_2 x36_3 x36_4 H locs ls k36_0 k36_1 k36_2 k36_3 k36_4 k36_5 k36_6 k36_7 k36_8 k36_9 k36_10 k36_11 k36_12 k36_13 k36_14 k36_15 k36_16 k36_17 k36_18 k36_19 hm hw hl
      have lx36_1 := Int32.le_toInt x36_1
      have ux36_1 := Int32.toInt_lt x36_1
      have lx36_2 := Int32.le_toInt x36_2
      have ux36_2 := Int32.toInt_lt x36_2
      have lx36_3 := Int32.le_toInt x36_3
      have ux36_3 := Int32.toInt_lt x36_3
      have lx36_4 := Int32.le_toInt x36_4
      have ux36_4 := Int32.toInt_lt x36_4
      have hfb := k36_15
      have hfw := k36_16
      have hmks := k36_17
      have ht_x36_3 := k36_18
      have hn_ht_x36_3 := ht_x36_3.num
      have hfs := k36_19
      refine lv_iload S.x S.b d_Mpg_unary_36 (lv_at hl 4 rfl) ?_
      refine lv_iload_n S.x S.b d_Mpg_unary_38 rfl (lv_at hl 1 rfl) ?_
      refine lv_icmp_lt (tgt := 101) S.x S.b d_Mpg_unary_39 (by decide) (fun c1 => ?_) (fun c1 => ?_)
      · have nc1 : x36_4.toInt < x36_1.toInt := (i_lt (x := x36_4) (y := x36_1)).mp c1
        refine lv_aload_n S.x S.b d_Mpg_unary_101 rfl (lv_at hl 0 rfl) ?_
        refine lv_aload_n S.x S.b d_Mpg_unary_102 rfl (lv_at hl 0 rfl) ?_
        refine px_get S k_Mpg hT hw 0 0 12 (v := .int (pf_36 12)) rfl rfl rfl (by decide) m9_236 d_Mpg_unary_103 ?_
        refine lv_iload_n S.x S.b d_Mpg_unary_106 rfl (lv_at hl 2 rfl) ?_
        refine lv_isub S.x S.b d_Mpg_unary_107 ?_
        have lr2 := Int32.le_toInt (pf_36 12)
        have ur2 := Int32.toInt_lt (pf_36 12)
        refine lv_topi (fun z3 ez3 => ?_)
        have tz3 : z3.toInt = ((pf_36 12).toInt - x36_2.toInt + 2147483648) % 4294967296 - 2147483648 := by rw [ez3]; exact i_sub (pf_36 12) x36_2
        have lz3 := Int32.le_toInt z3
        have uz3 := Int32.toInt_lt z3
        try replace tz3 : z3.toInt = (pf_36 12).toInt - x36_2.toInt := by omega
        refine px_put S k_Mpg hT hw 0 0 12 rfl rfl (by decide) m9_236 rfl rfl rfl (Nat.le_of_ble_eq_true rfl) d_Mpg_unary_108 (w' := wdP cs h r g tf ta (upd pf_36 12 z3) na_36 ma_36 wa_36 cf ca ef ea xf xa) (ps' := [wdP cs h r g tf ta (upd pf_36 12 z3) na_36 ma_36 wa_36 cf ca ef ea xf xa]) rfl rfl (fun H locs hw => ?_)
        refine lv_iload_n S.x S.b d_Mpg_unary_111 rfl (lv_at hl 3 rfl) ?_
        exact th_iret (v := x36_3) S hr rfl hlk hAe hw (⟨(upd pf_36 12 z3), na_36, ma_36, wa_36, rfl, (show (pf 11).toInt + 1 ≤ (pf_36 11).toInt from by first | exact k36_9 | omega), (show (pf_36 11).toInt < (tf 6).toInt from by first | exact k36_10 | omega), (show (pf 13).toInt + 1 ≤ (pf_36 13).toInt from by first | exact k36_12 | omega), (show (pf_36 13).toInt - (pf 13).toInt ≤ (pf_36 11).toInt - (pf 11).toInt from by first | exact oz_14838bf257 k36_13 k36_7 | omega), (show bp ta (pf 11) + 1 ≤ bp ta (pf_36 11) from by first | exact k36_14 | omega), (show z3.toInt = (pf 12).toInt from by first | exact oz_20f01d2cb2 k36_6 tz3 | omega), (show (pf_36 24).toInt = (pf 24).toInt from by first | exact k36_0 | omega), (show (pf_36 25).toInt = (pf 25).toInt from by first | exact k36_1 | omega), (show (pf_36 26).toInt = (pf 26).toInt from by first | exact k36_2 | omega), (show FrB (pf 13).toInt na ma na_36 ma_36 from hfb), (show FrW (pf 26).toInt wa wa_36 from hfw), (show ExR ta (tf 6).toInt na_36 ma_36 x36_3 (pf 13).toInt (pf_36 13).toInt (3 * (bp ta (pf_36 11) - bp ta (pf 11))) (pf 12).toInt from (ExR.le ht_x36_3 (by first | with_reducible rfl | with_reducible assumption | omega) (by first | with_reducible rfl | with_reducible assumption | omega) (by first | with_reducible rfl | with_reducible assumption | omega) (by first | with_reducible rfl | with_reducible assumption | omega))), (show FsI (tf 6).toInt (pf_36 13).toInt na_36 from (FsI.le hfs (by first | with_reducible rfl | with_reducible assumption | omega)))⟩) d_Mpg_unary_112
      · have nc1 : ¬ x36_4.toInt < x36_1.toInt := mt (i_lt (x := x36_4) (y := x36_1)).mpr c1
        refine lv_aload_n S.x S.b d_Mpg_unary_42 rfl (lv_at hl 0 rfl) ?_
        have hso5 := hmks x36_4 (by first | with_reducible rfl | with_reducible assumption | omega) (by first | with_reducible rfl | with_reducible assumption | omega)
        refine lv_iconst (v := 5) S.x S.b d_Mpg_unary_43 (by decide) ?_
        refine lv_iload S.x S.b d_Mpg_unary_44 (lv_at hl 4 rfl) ?_
        refine px_calli (pr := []) (px_runV (As := [.int 5, .int x36_4]) (rest := []) S (c_mp_make l D cs h r g tf ta wa_36 cf ca ef ea xf xa pf_36 na_36 ma_36 5 x36_4  (show 0 ≤ (pf_36 13).toInt from by first | exact oz_06d7f15a5c k36_12 g5 | omega) (show (pf_36 13).toInt < 2100 from by first | exact oz_71e471c581 k36_13 g6 k36_10 nc1 g2 | omega) _) hT (pr := []) (pcs := [wdP cs h r g tf ta pf_36 na_36 ma_36 wa_36 cf ca ef ea xf xa]) hw px_X.tt (px_recv hT hw 0 0 rfl rfl rfl) m11_209 m11_206 m11_208 ms_8_12 m1_21 q_Mpg_make ⟨show 0 + 1 ≤ (8 * lv + 17) from by first | with_reducible rfl | with_reducible assumption | omega, show 8 + (3 + 11) + 0 ≤ (220 * lv + 630) from by first | with_reducible rfl | with_reducible assumption | omega⟩ hl.1 rfl (Nat.le_of_ble_eq_true rfl) d_Mpg_unary_46 ⟨Nat.le_of_ble_eq_true rfl, Nat.le_of_ble_eq_true rfl⟩) hw hA (fun v11 p10 H locs hp10 hw => ?_)
        obtain ⟨pf7, na8, ma9, rfl, e12, e13, e14, e15, e16, e17, e18, e19⟩ := hp10
        have e12 : v11.toInt = (pf_36 13).toInt := e12
        have e13 : (pf7 13).toInt = (pf_36 13).toInt + 1 := e13
        have e14 : (pf7 11).toInt = (pf_36 11).toInt := e14
        have e15 : (pf7 12).toInt = (pf_36 12).toInt := e15
        have e16 : (pf7 24).toInt = (pf_36 24).toInt := e16
        have e17 : (pf7 25).toInt = (pf_36 25).toInt := e17
        have e18 : (pf7 26).toInt = (pf_36 26).toInt := e18
        have e19 : MkN na_36 ma_36 na8 ma9 v11 (5 : Int32) x36_4 := e19
        obtain ⟨qb201, qb202, qb203, qb204⟩ := tk_eq (ta := ta) (x := (pf7 11)) (y := (pf_36 11)) (by first | with_reducible rfl | with_reducible assumption | omega)
        have hmk_v11 := e19
        have hfm_v11 := MkN.frb (b := v11.toInt) hmk_v11 (by first | with_reducible rfl | with_reducible assumption | omega) (by first | with_reducible rfl | with_reducible assumption | omega)
        have ht_x36_3 := ht_x36_3.kp (FrB.le hfm_v11 (by first | with_reducible rfl | with_reducible assumption | omega)) (by first | with_reducible rfl | with_reducible assumption | omega)
        have hn_ht_x36_3 := ht_x36_3.num
        have hdq_x36_3 := dp_fb (x := x36_3) hfm_v11 (by first | with_reducible rfl | with_reducible assumption | omega) (by first | with_reducible rfl | with_reducible assumption | omega)
        have hfs := FsI.mk hfs hmk_v11 (by first | with_reducible rfl | with_reducible assumption | omega) (by first | with_reducible rfl | with_reducible assumption | omega) (by first | with_reducible rfl | with_reducible assumption | omega) (by first | with_reducible rfl | with_reducible assumption | omega)
        have hfb := hfb.tr hfm_v11 (by first | with_reducible rfl | with_reducible assumption | omega)
        have hnk_v11 := hmk_v11.nk (by decide) (by decide) (by first | with_reducible rfl | with_reducible assumption | omega)
        have hdn_v11 := dp_nk hmk_v11
        have hw : pw D A s.heap H locs [wdP cs h r g tf ta pf7 na8 ma9 wa_36 cf ca ef ea xf xa] := hw
        have lv11 := Int32.le_toInt v11
        have uv11 := Int32.toInt_lt v11
        refine lv_istore (lv' := [(5, .int v11), (0, .ref h), (1, .int x36_1), (2, .int x36_2), (3, .int x36_3), (4, .int x36_4)]) S.x S.b d_Mpg_unary_49 hl (by decide) rfl (fun ls hl => ?_)
        refine lv_aload_n S.x S.b d_Mpg_unary_51 rfl (lv_at hl 1 rfl) ?_
        refine px_get S k_Mpg hT hw 0 0 23 (v := .ref (r 23)) rfl rfl rfl (by decide) m10_11 d_Mpg_unary_52 ?_
        refine lv_iload S.x S.b d_Mpg_unary_55 (lv_at hl 0 rfl) ?_
        refine lv_aload_n S.x S.b d_Mpg_unary_57 rfl (lv_at hl 1 rfl) ?_
        refine lv_iload S.x S.b d_Mpg_unary_58 (lv_at hl 5 rfl) ?_
        refine px_calli (pr := []) (px_runV (As := [.int x36_4]) (rest := [.int v11, .ref (r 23)]) S (c_mp_isNothing l D cs h r g tf ta pf7 na8 ma9 wa_36 cf ca ef ea xf xa x36_4  (show 0 ≤ x36_4.toInt from by first | exact oz_31360b6364 nc1 g0 k36_3 | omega) (show x36_4.toInt < (tf 6).toInt from by first | exact oz_bbe56908ed k36_10 k36_13 k36_3 k36_12 | omega) (show (tf 6).toInt ≤ 2049 from by first | exact g2 | omega) htk _) hT (pr := []) (pcs := [wdP cs h r g tf ta pf7 na8 ma9 wa_36 cf ca ef ea xf xa]) hw px_X.tt (px_recv hT hw 0 0 rfl rfl rfl) m12_65 m12_62 m12_64 ms_10_1 m1_21 q_Mpg_isNothing ⟨show 0 + 1 ≤ (8 * lv + 17) from by first | with_reducible rfl | with_reducible assumption | omega, show 8 + (2 + 11) + 0 ≤ (220 * lv + 630) from by first | with_reducible rfl | with_reducible assumption | omega⟩ hl.1 rfl (Nat.le_of_ble_eq_true rfl) d_Mpg_unary_60 ⟨Nat.le_of_ble_eq_true rfl, Nat.le_of_ble_eq_true rfl⟩) hw hA (fun v22 p21 H locs hp21 hw => ?_)
        obtain ⟨rfl, e23, e24⟩ := hp21
        have e23 := z_rng e23
        have e24 : PlV ta x36_4 v22.toInt := e24
        have hplv := e24
        have hw : pw D A s.heap H locs [wdP cs h r g tf ta pf7 na8 ma9 wa_36 cf ca ef ea xf xa] := hw
        have lv22 := Int32.le_toInt v22
        have uv22 := Int32.toInt_lt v22
        refine lv_if_eq (tgt := 75) S.x S.b d_Mpg_unary_63 (by decide) (fun c25 => ?_) (fun c25 => ?_)
        · have nc25 : v22.toInt = (0 : Int) := (i_eq (x := v22) (y := 0)).mp c25
          refine lv_iconst (v := 1) S.x S.b d_Mpg_unary_75 (by decide) ?_
          refine lv_aload_n S.x S.b d_Mpg_unary_76 rfl (lv_at hl 1 rfl) ?_
          refine px_get S k_Mpg hT hw 0 0 23 (v := .ref (r 23)) rfl rfl rfl (by decide) m10_11 d_Mpg_unary_77 ?_
          refine lv_iload_n S.x S.b d_Mpg_unary_80 rfl (lv_at hl 4 rfl) ?_
          refine px_iald S hT hw 0 19 (n := 2100) (f := (na8 23)) rfl gp_23 (x := x36_3) (vp_in_iff.mpr (by constructor <;> omega)) d_Mpg_unary_81 ?_
          refine lv_topi (fun z26 ez26 => ?_)
          have lz26 := Int32.le_toInt z26
          have uz26 := Int32.toInt_lt z26
          have rz26 : z26.toInt = dp na8 x36_3 := by rw [ez26]; rfl
          refine lv_iadd S.x S.b d_Mpg_unary_82 ?_
          refine lv_topi (fun z27 ez27 => ?_)
          have tz27 : z27.toInt = ((1 : Int) + z26.toInt + 2147483648) % 4294967296 - 2147483648 := by rw [ez27]; exact i_add 1 z26
          have lz27 := Int32.le_toInt z27
          have uz27 := Int32.toInt_lt z27
          try replace tz27 : z27.toInt = (1 : Int) + z26.toInt := by omega
          refine px_iast S hT hw 0 19 (n := 2100) (f := (na8 23)) (x := v11) (y := z27) rfl gp_23 (vp_in_iff.mpr (by constructor <;> omega)) d_Mpg_unary_83 (w' := wdP cs h r g tf ta pf7 (va_up na8 23 (upd (na8 23) v11.toNatClampNeg z27)) ma9 wa_36 cf ca ef ea xf xa) (ps' := [wdP cs h r g tf ta pf7 (va_up na8 23 (upd (na8 23) v11.toNatClampNeg z27)) ma9 wa_36 cf ca ef ea xf xa]) sp_23 rfl (fun H locs hw => ?_)
          refine lv_aload_n S.x S.b d_Mpg_unary_84 rfl (lv_at hl 1 rfl) ?_
          refine px_get S k_Mpg hT hw 0 0 17 (v := .ref (r 17)) rfl rfl rfl (by decide) m10_1 d_Mpg_unary_85 ?_
          refine lv_iload S.x S.b d_Mpg_unary_88 (lv_at hl 0 rfl) ?_
          refine lv_iload_n S.x S.b d_Mpg_unary_90 rfl (lv_at hl 4 rfl) ?_
          refine px_iast S hT hw 0 13 (n := 2100) (f := ((va_up na8 23 (upd (na8 23) v11.toNatClampNeg z27)) 17)) (x := v11) (y := x36_3) rfl gp_17 (vp_in_iff.mpr (by constructor <;> omega)) d_Mpg_unary_91 (w' := wdP cs h r g tf ta pf7 (va_up (va_up na8 23 (upd (na8 23) v11.toNatClampNeg z27)) 17 (upd ((va_up na8 23 (upd (na8 23) v11.toNatClampNeg z27)) 17) v11.toNatClampNeg x36_3)) ma9 wa_36 cf ca ef ea xf xa) (ps' := [wdP cs h r g tf ta pf7 (va_up (va_up na8 23 (upd (na8 23) v11.toNatClampNeg z27)) 17 (upd ((va_up na8 23 (upd (na8 23) v11.toNatClampNeg z27)) 17) v11.toNatClampNeg x36_3)) ma9 wa_36 cf ca ef ea xf xa]) sp_17 rfl (fun H locs hw => ?_)
          refine lv_iload S.x S.b d_Mpg_unary_92 (lv_at hl 0 rfl) ?_
          refine lv_istore_n (lv' := [(3, .int v11), (5, .int v11), (0, .ref h), (1, .int x36_1), (2, .int x36_2), (4, .int x36_4)]) S.x S.b d_Mpg_unary_94 rfl hl (by decide) rfl (fun ls hl => ?_)
          obtain ⟨z28, ez28⟩ : ∃ y : Int32, y = x36_4 + (-1) := ⟨_, rfl⟩
          have tz28 : z28.toInt = (x36_4.toInt + (-1) + 2147483648) % 4294967296 - 2147483648 := by rw [ez28]; exact i_add x36_4 (-1)
          have lz28 := Int32.le_toInt z28
          have uz28 := Int32.toInt_lt z28
          try replace tz28 : z28.toInt = x36_4.toInt + (-1) := by omega
          refine lv_iinc (v := z28) (lv' := [(4, .int z28), (3, .int v11), (5, .int v11), (0, .ref h), (1, .int x36_1), (2, .int x36_2)]) S.x S.b d_Mpg_unary_95 hl (k := 5) rfl (by rw [ez28]; rfl) (by decide) rfl (fun ls hl => ?_)
          refine lv_goto (tgt := 36) S.x S.b d_Mpg_unary_98 (by decide) ?_
          exact ih36 pf7 (va_up (va_up na8 23 (upd (na8 23) v11.toNatClampNeg z27)) 17 (upd ((va_up na8 23 (upd (na8 23) v11.toNatClampNeg z27)) 17) v11.toNatClampNeg x36_3)) ma9 wa_36 x36_1 x36_2 v11 z28 _ _ ls (show (pf7 24).toInt = (pf 24).toInt from by first | exact oz_1687f4cc65 k36_0 e16 | omega) (show (pf7 25).toInt = (pf 25).toInt from by first | exact oz_1687f4cc65 k36_1 e17 | omega) (show (pf7 26).toInt = (pf 26).toInt from by first | exact oz_1687f4cc65 k36_2 e18 | omega) (show x36_1.toInt = (pf 11).toInt from by first | exact k36_3 | omega) (show 0 ≤ x36_2.toInt from by first | exact k36_4 | omega) (show x36_2.toInt ≤ 60 from by first | exact k36_5 | omega) (show (pf7 12).toInt = (pf 12).toInt + x36_2.toInt from by first | exact oz_2245017a51 k36_6 e15 | omega) (show x36_1.toInt - 1 ≤ z28.toInt from by first | exact oz_fc89eb8599 nc1 tz28 | omega) (show z28.toInt < x36_1.toInt + x36_2.toInt from by first | exact oz_4a311118dd k36_8 tz28 | omega) (show (pf 11).toInt + 1 ≤ (pf7 11).toInt from by first | exact oz_d540ff4746 k36_13 e14 k36_12 nc1 | omega) (show (pf7 11).toInt < (tf 6).toInt from by first | exact oz_5d2fbac15b k36_10 e14 | omega) (show (pf 11).toInt + x36_2.toInt < (tf 6).toInt from by first | exact k36_11 | omega) (show (pf 13).toInt + 1 ≤ (pf7 13).toInt from by first | exact oz_65cc19c39a k36_12 e13 | omega) (show (pf7 13).toInt - (pf 13).toInt ≤ (pf7 11).toInt - (pf 11).toInt - (z28.toInt + 1 - x36_1.toInt) from by first | exact oz_368756936e k36_13 e13 e14 tz28 | omega) (show bp ta (pf 11) + 1 ≤ bp ta (pf7 11) from by first | with_reducible rfl | with_reducible assumption | omega) (show FrB (pf 13).toInt na ma (va_up (va_up na8 23 (upd (na8 23) v11.toNatClampNeg z27)) 17 (upd ((va_up na8 23 (upd (na8 23) v11.toNatClampNeg z27)) 17) v11.toNatClampNeg x36_3)) ma9 from (FrB.un (FrB.un hfb (by first | with_reducible rfl | with_reducible assumption | omega) (by first | with_reducible rfl | with_reducible assumption | omega)) (by first | with_reducible rfl | with_reducible assumption | omega) (by first | with_reducible rfl | with_reducible assumption | omega))) (show FrW (pf 26).toInt wa wa_36 from hfw) (show Mks ta (pf 11).toInt ((pf 11).toInt + x36_2.toInt) from (by first | exact hmks.le (by first | with_reducible rfl | with_reducible assumption | omega) (by first | with_reducible rfl | with_reducible assumption | omega) | exact hmks.step (y := (pf_7 11)) (by first | with_reducible rfl | with_reducible assumption | omega) (by first | with_reducible rfl | with_reducible assumption | omega) (by first | with_reducible rfl | with_reducible assumption | omega))) (show ExR ta (tf 6).toInt (va_up (va_up na8 23 (upd (na8 23) v11.toNatClampNeg z27)) 17 (upd ((va_up na8 23 (upd (na8 23) v11.toNatClampNeg z27)) 17) v11.toNatClampNeg x36_3)) ma9 v11 (pf 13).toInt (pf7 13).toInt (3 * (bp ta (pf7 11) - bp ta (pf 11)) - 3 * (z28.toInt + 1 - x36_1.toInt)) ((pf 12).toInt + (z28.toInt + 1 - x36_1.toInt)) from (ExR.le (exr_up ht_x36_3 (by first | with_reducible rfl | with_reducible assumption | omega) (fun x hx => ⟨fun j => by rw [up_far hx, up_far hx], fun _ => rfl⟩) (by first | with_reducible rfl | with_reducible assumption | omega) (Or.inl (by rw [va_up_n (by decide), va_up_n (by decide), hnk_v11.1]; rfl)) (ndt_of (by rw [va_up_n (by decide), va_up_n (by decide), hnk_v11.2.1]) (by first | with_reducible rfl | with_reducible assumption | omega) (by first | with_reducible rfl | with_reducible assumption | omega) (by first | with_reducible rfl | with_reducible assumption | omega)) (by rw [va_up_s, pk_us]) (fun _ hp => by first | (rw [dp_un (by decide), dp_us]; omega) | exact absurd (by rw [va_up_n (by decide), va_up_n (by decide), hnk_v11.2.1] at hp; exact hp) (hplv.2 (by first | with_reducible rfl | with_reducible assumption | omega))) (by rw [dp_un (by decide), dp_us]; omega) (by rw [dp_un (by decide), dp_us]; omega) (by rw [dp_un (by decide), dp_us]; omega) ⟨(by rw [va_up_n (by decide), va_up_n (by decide), hnk_v11.2.2.1]; decide), (by rw [hnk_v11.2.2.2.2]; decide)⟩) (by first | with_reducible rfl | with_reducible assumption | omega) (by first | with_reducible rfl | with_reducible assumption | omega) (by first | with_reducible rfl | with_reducible assumption | omega) (Int.le_refl _))) (show FsI (tf 6).toInt (pf7 13).toInt (va_up (va_up na8 23 (upd (na8 23) v11.toNatClampNeg z27)) 17 (upd ((va_up na8 23 (upd (na8 23) v11.toNatClampNeg z27)) 17) v11.toNatClampNeg x36_3)) from (FsI.le (FsI.un (FsI.un hfs (by decide)) (by decide)) (by first | with_reducible rfl | with_reducible assumption | omega))) (show z28.toInt - x36_1.toInt + 1 < (n_36 : Int) from by first | exact oz_add21c4255 hm tz28 | omega) hw (lv_sub hl [3, 4, 5, 1, 0] rfl)
        · have nc25 : ¬ v22.toInt = (0 : Int) := mt (i_eq (x := v22) (y := 0)).mpr c25
          refine lv_aload_n S.x S.b d_Mpg_unary_66 rfl (lv_at hl 1 rfl) ?_
          refine px_get S k_Mpg hT hw 0 0 23 (v := .ref (r 23)) rfl rfl rfl (by decide) m10_11 d_Mpg_unary_67 ?_
          refine lv_iload_n S.x S.b d_Mpg_unary_70 rfl (lv_at hl 4 rfl) ?_
          refine px_iald S hT hw 0 19 (n := 2100) (f := (na8 23)) rfl gp_23 (x := x36_3) (vp_in_iff.mpr (by constructor <;> omega)) d_Mpg_unary_71 ?_
          refine lv_topi (fun z29 ez29 => ?_)
          have lz29 := Int32.le_toInt z29
          have uz29 := Int32.toInt_lt z29
          have rz29 : z29.toInt = dp na8 x36_3 := by rw [ez29]; rfl
          refine lv_goto (tgt := 83) S.x S.b d_Mpg_unary_72 (by decide) ?_
          refine px_iast S hT hw 0 19 (n := 2100) (f := (na8 23)) (x := v11) (y := z29) rfl gp_23 (vp_in_iff.mpr (by constructor <;> omega)) d_Mpg_unary_83 (w' := wdP cs h r g tf ta pf7 (va_up na8 23 (upd (na8 23) v11.toNatClampNeg z29)) ma9 wa_36 cf ca ef ea xf xa) (ps' := [wdP cs h r g tf ta pf7 (va_up na8 23 (upd (na8 23) v11.toNatClampNeg z29)) ma9 wa_36 cf ca ef ea xf xa]) sp_23 rfl (fun H locs hw => ?_)
          refine lv_aload_n S.x S.b d_Mpg_unary_84 rfl (lv_at hl 1 rfl) ?_
          refine px_get S k_Mpg hT hw 0 0 17 (v := .ref (r 17)) rfl rfl rfl (by decide) m10_1 d_Mpg_unary_85 ?_
          refine lv_iload S.x S.b d_Mpg_unary_88 (lv_at hl 0 rfl) ?_
          refine lv_iload_n S.x S.b d_Mpg_unary_90 rfl (lv_at hl 4 rfl) ?_
          refine px_iast S hT hw 0 13 (n := 2100) (f := ((va_up na8 23 (upd (na8 23) v11.toNatClampNeg z29)) 17)) (x := v11) (y := x36_3) rfl gp_17 (vp_in_iff.mpr (by constructor <;> omega)) d_Mpg_unary_91 (w' := wdP cs h r g tf ta pf7 (va_up (va_up na8 23 (upd (na8 23) v11.toNatClampNeg z29)) 17 (upd ((va_up na8 23 (upd (na8 23) v11.toNatClampNeg z29)) 17) v11.toNatClampNeg x36_3)) ma9 wa_36 cf ca ef ea xf xa) (ps' := [wdP cs h r g tf ta pf7 (va_up (va_up na8 23 (upd (na8 23) v11.toNatClampNeg z29)) 17 (upd ((va_up na8 23 (upd (na8 23) v11.toNatClampNeg z29)) 17) v11.toNatClampNeg x36_3)) ma9 wa_36 cf ca ef ea xf xa]) sp_17 rfl (fun H locs hw => ?_)
          refine lv_iload S.x S.b d_Mpg_unary_92 (lv_at hl 0 rfl) ?_
          refine lv_istore_n (lv' := [(3, .int v11), (5, .int v11), (0, .ref h), (1, .int x36_1), (2, .int x36_2), (4, .int x36_4)]) S.x S.b d_Mpg_unary_94 rfl hl (by decide) rfl (fun ls hl => ?_)
          obtain ⟨z30, ez30⟩ : ∃ y : Int32, y = x36_4 + (-1) := ⟨_, rfl⟩
          have tz30 : z30.toInt = (x36_4.toInt + (-1) + 2147483648) % 4294967296 - 2147483648 := by rw [ez30]; exact i_add x36_4 (-1)
          have lz30 := Int32.le_toInt z30
          have uz30 := Int32.toInt_lt z30
          try replace tz30 : z30.toInt = x36_4.toInt + (-1) := by omega
          refine lv_iinc (v := z30) (lv' := [(4, .int z30), (3, .int v11), (5, .int v11), (0, .ref h), (1, .int x36_1), (2, .int x36_2)]) S.x S.b d_Mpg_unary_95 hl (k := 5) rfl (by rw [ez30]; rfl) (by decide) rfl (fun ls hl => ?_)
          refine lv_goto (tgt := 36) S.x S.b d_Mpg_unary_98 (by decide) ?_
          exact ih36 pf7 (va_up (va_up na8 23 (upd (na8 23) v11.toNatClampNeg z29)) 17 (upd ((va_up na8 23 (upd (na8 23) v11.toNatClampNeg z29)) 17) v11.toNatClampNeg x36_3)) ma9 wa_36 x36_1 x36_2 v11 z30 _ _ ls (show (pf7 24).toInt = (pf 24).toInt from by first | exact oz_1687f4cc65 k36_0 e16 | omega) (show (pf7 25).toInt = (pf 25).toInt from by first | exact oz_1687f4cc65 k36_1 e17 | omega) (show (pf7 26).toInt = (pf 26).toInt from by first | exact oz_1687f4cc65 k36_2 e18 | omega) (show x36_1.toInt = (pf 11).toInt from by first | exact k36_3 | omega) (show 0 ≤ x36_2.toInt from by first | exact k36_4 | omega) (show x36_2.toInt ≤ 60 from by first | exact k36_5 | omega) (show (pf7 12).toInt = (pf 12).toInt + x36_2.toInt from by first | exact oz_2245017a51 k36_6 e15 | omega) (show x36_1.toInt - 1 ≤ z30.toInt from by first | exact oz_fc89eb8599 nc1 tz30 | omega) (show z30.toInt < x36_1.toInt + x36_2.toInt from by first | exact oz_4a311118dd k36_8 tz30 | omega) (show (pf 11).toInt + 1 ≤ (pf7 11).toInt from by first | exact oz_d540ff4746 k36_13 e14 k36_12 nc1 | omega) (show (pf7 11).toInt < (tf 6).toInt from by first | exact oz_5d2fbac15b k36_10 e14 | omega) (show (pf 11).toInt + x36_2.toInt < (tf 6).toInt from by first | exact k36_11 | omega) (show (pf 13).toInt + 1 ≤ (pf7 13).toInt from by first | exact oz_65cc19c39a k36_12 e13 | omega) (show (pf7 13).toInt - (pf 13).toInt ≤ (pf7 11).toInt - (pf 11).toInt - (z30.toInt + 1 - x36_1.toInt) from by first | exact oz_368756936e k36_13 e13 e14 tz30 | omega) (show bp ta (pf 11) + 1 ≤ bp ta (pf7 11) from by first | with_reducible rfl | with_reducible assumption | omega) (show FrB (pf 13).toInt na ma (va_up (va_up na8 23 (upd (na8 23) v11.toNatClampNeg z29)) 17 (upd ((va_up na8 23 (upd (na8 23) v11.toNatClampNeg z29)) 17) v11.toNatClampNeg x36_3)) ma9 from (FrB.un (FrB.un hfb (by first | with_reducible rfl | with_reducible assumption | omega) (by first | with_reducible rfl | with_reducible assumption | omega)) (by first | with_reducible rfl | with_reducible assumption | omega) (by first | with_reducible rfl | with_reducible assumption | omega))) (show FrW (pf 26).toInt wa wa_36 from hfw) (show Mks ta (pf 11).toInt ((pf 11).toInt + x36_2.toInt) from (by first | exact hmks.le (by first | with_reducible rfl | with_reducible assumption | omega) (by first | with_reducible rfl | with_reducible assumption | omega) | exact hmks.step (y := (pf_7 11)) (by first | with_reducible rfl | with_reducible assumption | omega) (by first | with_reducible rfl | with_reducible assumption | omega) (by first | with_reducible rfl | with_reducible assumption | omega))) (show ExR ta (tf 6).toInt (va_up (va_up na8 23 (upd (na8 23) v11.toNatClampNeg z29)) 17 (upd ((va_up na8 23 (upd (na8 23) v11.toNatClampNeg z29)) 17) v11.toNatClampNeg x36_3)) ma9 v11 (pf 13).toInt (pf7 13).toInt (3 * (bp ta (pf7 11) - bp ta (pf 11)) - 3 * (z30.toInt + 1 - x36_1.toInt)) ((pf 12).toInt + (z30.toInt + 1 - x36_1.toInt)) from (ExR.le (exr_up ht_x36_3 (by first | with_reducible rfl | with_reducible assumption | omega) (fun x hx => ⟨fun j => by rw [up_far hx, up_far hx], fun _ => rfl⟩) (by first | with_reducible rfl | with_reducible assumption | omega) (Or.inl (by rw [va_up_n (by decide), va_up_n (by decide), hnk_v11.1]; rfl)) (ndt_of (by rw [va_up_n (by decide), va_up_n (by decide), hnk_v11.2.1]) (by first | with_reducible rfl | with_reducible assumption | omega) (by first | with_reducible rfl | with_reducible assumption | omega) (by first | with_reducible rfl | with_reducible assumption | omega)) (by rw [va_up_s, pk_us]) (fun _ hp => by first | (rw [dp_un (by decide), dp_us]; omega) | exact absurd (by rw [va_up_n (by decide), va_up_n (by decide), hnk_v11.2.1] at hp; exact hp) (hplv.2 (by first | with_reducible rfl | with_reducible assumption | omega))) (by rw [dp_un (by decide), dp_us]; omega) (by rw [dp_un (by decide), dp_us]; omega) (by rw [dp_un (by decide), dp_us]; omega) ⟨(by rw [va_up_n (by decide), va_up_n (by decide), hnk_v11.2.2.1]; decide), (by rw [hnk_v11.2.2.2.2]; decide)⟩) (by first | with_reducible rfl | with_reducible assumption | omega) (by first | with_reducible rfl | with_reducible assumption | omega) (by first | with_reducible rfl | with_reducible assumption | omega) (Int.le_refl _))) (show FsI (tf 6).toInt (pf7 13).toInt (va_up (va_up na8 23 (upd (na8 23) v11.toNatClampNeg z29)) 17 (upd ((va_up na8 23 (upd (na8 23) v11.toNatClampNeg z29)) 17) v11.toNatClampNeg x36_3)) from (FsI.le (FsI.un (FsI.un hfs (by decide)) (by decide)) (by first | with_reducible rfl | with_reducible assumption | omega))) (show z30.toInt - x36_1.toInt + 1 < (n_36 : Int) from by first | exact oz_add21c4255 hm tz30 | omega) hw (lv_sub hl [3, 4, 5, 1, 0] rfl)
  have J7 : ∀ (n_7 : Nat) (pf_7 : Nat → Int32) (x7_1 x7_2 : Int32) (H : Heap) (locs : List Loc) (ls : Array Slot), ((pf_7 13).toInt = (pf 13).toInt) → ((pf_7 24).toInt = (pf 24).toInt) → ((pf_7 25).toInt = (pf 25).toInt) → ((pf_7 26).toInt = (pf 26).toInt) → (x7_1.toInt = (pf 11).toInt) → (0 ≤ x7_2.toInt) → ((pf_7 11).toInt = (pf 11).toInt + x7_2.toInt) → ((pf_7 12).toInt = (pf 12).toInt + x7_2.toInt) → ((pf_7 12).toInt ≤ 60) → ((pf_7 11).toInt < (tf 6).toInt) → (bp ta (pf 11) + x7_2.toInt ≤ bp ta (pf_7 11)) → (Mks ta (pf 11).toInt ((pf 11).toInt + x7_2.toInt)) → (tf 6).toInt - (pf_7 11).toInt < (n_7 : Int) → pw D A s.heap H locs [wdP cs h r g tf ta pf_7 na ma wa cf ca ef ea xf xa] → lv_has ls 6 [(0, .ref h), (1, .int x7_1), (2, .int x7_2)] → W p l e { frames := (8 * lv + 17), cells := 1, slots := 6, locals := (220 * lv + 630) } s m [.ref h].toArray below meth c H locs 0 0 (tx_MQ below (thQi D (va_A ([wdP cs h r g tf ta pf na ma wa cf ca ef ea xf xa] : List va_W).flatten s.heap.size) "java/lang/IllegalArgumentException" (fun v ps => ∃ (pf' : Nat → Int32) (na' : Nat → Nat → Int32) (ma' : Nat → Nat → Int32) (wa' : Nat → Nat → Int32), (ps = [wdP cs h r g tf ta pf' na' ma' wa' cf ca ef ea xf xa]) ∧ ((pf 11).toInt + 1 ≤ (pf' 11).toInt) ∧ ((pf' 11).toInt < (tf 6).toInt) ∧ ((pf 13).toInt + 1 ≤ (pf' 13).toInt) ∧ ((pf' 13).toInt - (pf 13).toInt ≤ (pf' 11).toInt - (pf 11).toInt) ∧ (bp ta (pf 11) + 1 ≤ bp ta (pf' 11)) ∧ ((pf' 12).toInt = (pf 12).toInt) ∧ ((pf' 24).toInt = (pf 24).toInt) ∧ ((pf' 25).toInt = (pf 25).toInt) ∧ ((pf' 26).toInt = (pf 26).toInt) ∧ (FrB (pf 13).toInt na ma na' ma') ∧ (FrW (pf 26).toInt wa wa') ∧ (ExR ta (tf 6).toInt na' ma' v (pf 13).toInt (pf' 13).toInt (3 * (bp ta (pf' 11) - bp ta (pf 11))) (pf 12).toInt) ∧ (FsI (tf 6).toInt (pf' 13).toInt na')) (fun ps => ∃ (pf' : Nat → Int32) (na' : Nat → Nat → Int32) (ma' : Nat → Nat → Int32) (wa' : Nat → Nat → Int32), ps = [wdP cs h r g tf ta pf' na' ma' wa' cf ca ef ea xf xa] ∧ 0 ≤ (pf' 11).toInt ∧ (pf' 11).toInt + 1 ≤ (tf 6).toInt) s.heap.size (tot s.heap)) [.ref h].toArray s 1 6 A) (F0 m 7 ls []) := by
    intro  n_7
    induction n_7 with
    | zero =>
      intro pf_7 x7_1 x7_2 H locs ls k7_0 k7_1 k7_2 k7_3 k7_4 k7_5 k7_6 k7_7 k7_8 k7_9 k7_10 k7_11 hm hw hl
      have lx7_1 := Int32.le_toInt x7_1
      have ux7_1 := Int32.toInt_lt x7_1
      have lx7_2 := Int32.le_toInt x7_2
      have ux7_2 := Int32.toInt_lt x7_2
      have hmks := k7_11
      exact absurd hm (by first | with_reducible rfl | with_reducible assumption | omega)
    | succ n_7 ih7 =>
      intro pf_7 x7_1 x7_2 H locs ls k7_0 k7_1 k7_2 k7_3 k7_4 k7_5 k7_6 k7_7 k7_8 k7_9 k7_10 k7_11 hm hw hl
      have lx7_1 := Int32.le_toInt x7_1
      have ux7_1 := Int32.toInt_lt x7_1
      have lx7_2 := Int32.le_toInt x7_2
      have ux7_2 := Int32.toInt_lt x7_2
      have hmks := k7_11
      refine lv_aload_n S.x S.b d_Mpg_unary_7 rfl (lv_at hl 0 rfl) ?_
      refine px_calli (pr := []) (px_runV (As := []) (rest := []) S (c_mp_isPrefix l D cs h r g tf ta pf_7 na ma wa cf ca ef ea xf xa   (show 0 ≤ (pf_7 11).toInt from by first | exact oz_58f944d8b2 k7_6 g0 k7_5 | omega) (show (pf_7 11).toInt < (tf 6).toInt from by first | exact k7_9 | omega) (show (tf 6).toInt ≤ 2049 from by first | exact g2 | omega) htk _) hT (pr := []) (pcs := [wdP cs h r g tf ta pf_7 na ma wa cf ca ef ea xf xa]) hw (oX_call (P := (fun A U H => (oP A g U H))) (pr := []) oG_P hw hA hP) (px_recv hT hw 0 0 rfl rfl rfl) m12_26 m12_23 m12_25 ms_9_8 m1_21 q_Mpg_isPrefix ⟨show 4 + 1 ≤ (8 * lv + 17) from by first | with_reducible rfl | with_reducible assumption | omega, show 8 + (1 + 11) + 160 ≤ (220 * lv + 630) from by first | with_reducible rfl | with_reducible assumption | omega⟩ hl.1 rfl (Nat.le_of_ble_eq_true rfl) d_Mpg_unary_8 ⟨Nat.le_of_ble_eq_true rfl, Nat.le_of_ble_eq_true rfl⟩) hw hA (fun v32 p31 H locs hp31 hw => ?_)
      obtain ⟨rfl, e33, e34⟩ := hp31
      have e33 := z_rng e33
      have e34 : v32.toInt = 1 → (pf_7 11).toInt + 1 < (tf 6).toInt ∧ so ta (pf_7 11) = 5 := e34
      have hw : pw D A s.heap H locs [wdP cs h r g tf ta pf_7 na ma wa cf ca ef ea xf xa] := hw
      have lv32 := Int32.le_toInt v32
      have uv32 := Int32.toInt_lt v32
      refine lv_if_eq (tgt := 24) S.x S.b d_Mpg_unary_11 (by decide) (fun c35 => ?_) (fun c35 => ?_)
      · have nc35 : v32.toInt = (0 : Int) := (i_eq (x := v32) (y := 0)).mp c35
        refine lv_aload_n S.x S.b d_Mpg_unary_24 rfl (lv_at hl 0 rfl) ?_
        refine th_calli (ps0 := [wdP cs h r g tf ta pf na ma wa cf ca ef ea xf xa]) (pr := []) (pcs := [wdP cs h r g tf ta pf_7 na ma wa cf ca ef ea xf xa]) (As := []) (rest := []) (c_mp_postfix l D cs h r g tf ta cf ca ef ea xf xa pf_7 na ma wa  lv (show 0 ≤ (pf_7 11).toInt from by first | exact oz_58f944d8b2 k7_6 g0 k7_5 | omega) (show (pf_7 11).toInt < (tf 6).toInt from by first | exact k7_9 | omega) (show (tf 6).toInt ≤ 2049 from by first | exact g2 | omega) (show 0 ≤ (pf_7 12).toInt from by first | exact oz_58f944d8b2 k7_7 g3 k7_5 | omega) (show (pf_7 12).toInt ≤ 60 from by first | exact k7_8 | omega) (show 0 ≤ (pf_7 13).toInt from by first | exact oz_f3ebed1ad0 k7_0 g5 | omega) (show (pf_7 13).toInt ≤ (pf_7 11).toInt + 20 from by first | exact oz_800222437a k7_0 k7_6 g6 k7_5 | omega) (show 0 ≤ (pf_7 26).toInt from by first | exact oz_f3ebed1ad0 k7_3 g7 | omega) (show (pf_7 26).toInt ≤ (pf_7 12).toInt from by first | exact oz_f02d107ac1 k7_3 k7_7 g8 k7_5 | omega) (show 61 ≤ (pf_7 12).toInt + (lv : Int) from by first | exact oz_9d5e284dcb g9 k7_7 k7_5 | omega) (show lv ≤ 61 from by first | exact g10 | omega) hlf htk (FsI.le (N' := (pf_7 13).toInt) hfs (by first | with_reducible rfl | with_reducible assumption | omega)) hE) S hT hw (oX_call (P := (fun A U H => (oN A U H) ∧ (oP A g U H))) (pr := []) (oG_and oG_N oG_P) hw hA ⟨hN, hP⟩) (px_recv hT hw 0 0 rfl rfl rfl) m12_30 m12_27 m12_29 ms_9_9 m1_21 q_Mpg_postfix ⟨show (8 * lv + 16) + 1 ≤ (8 * lv + 17) from by first | with_reducible rfl | with_reducible assumption | omega, show 8 + (3 + 11) + (220 * lv + 600) ≤ (220 * lv + 630) from by first | with_reducible rfl | with_reducible assumption | omega⟩ hl.1 rfl (Nat.le_of_ble_eq_true rfl) d_Mpg_unary_25 ⟨Nat.le_of_ble_eq_true rfl, Nat.le_of_ble_eq_true rfl⟩ hne hlk hA hAe (fun o t h => Or.inr h) ?_ (fun v45 p44 H locs hp44 hw => ?_)
        · exact fun p1 H1 locs1 hp hw => by obtain ⟨pq1, pq2, pq3, pq4, rfl, hq1, hq2⟩ := hp; exact ⟨_, ⟨pq1, pq2, pq3, pq4, rfl, hq1, hq2⟩, hw⟩
        obtain ⟨pf40, na41, ma42, wa43, rfl, e46, e47, e48, e49, e50, e51, e52, e53, e54, e55, e56, e57, e58⟩ := hp44
        have e46 : (pf_7 11).toInt + 1 ≤ (pf40 11).toInt := e46
        have e47 : (pf40 11).toInt < (tf 6).toInt := e47
        have e48 : (pf_7 13).toInt + 1 ≤ (pf40 13).toInt := e48
        have e49 : (pf40 13).toInt - (pf_7 13).toInt ≤ (pf40 11).toInt - (pf_7 11).toInt := e49
        have e50 : bp ta (pf_7 11) + 1 ≤ bp ta (pf40 11) := e50
        have e51 : (pf40 12).toInt = (pf_7 12).toInt := e51
        have e52 : (pf40 24).toInt = (pf_7 24).toInt := e52
        have e53 : (pf40 25).toInt = (pf_7 25).toInt := e53
        have e54 : (pf40 26).toInt = (pf_7 26).toInt := e54
        have e55 : FrB (pf_7 13).toInt na ma na41 ma42 := e55
        have hfb := hfb.tr e55 (by first | with_reducible rfl | with_reducible assumption | omega)
        have e56 : FrW (pf_7 26).toInt wa wa43 := e56
        have hfw := hfw.tr e56 (by first | with_reducible rfl | with_reducible assumption | omega)
        have e57 : ExR ta (tf 6).toInt na41 ma42 v45 (pf_7 13).toInt (pf40 13).toInt (3 * (bp ta (pf40 11) - bp ta (pf_7 11))) (pf_7 12).toInt := e57
        have ht_v45 := e57
        have hn_ht_v45 := ht_v45.num
        have e58 : FsI (tf 6).toInt (pf40 13).toInt na41 := e58
        have hfs := e58
        have hw : pw D A s.heap H locs [wdP cs h r g tf ta pf40 na41 ma42 wa43 cf ca ef ea xf xa] := hw
        have lv45 := Int32.le_toInt v45
        have uv45 := Int32.toInt_lt v45
        refine lv_istore_n (lv' := [(3, .int v45), (0, .ref h), (1, .int x7_1), (2, .int x7_2)]) S.x S.b d_Mpg_unary_28 rfl hl (by decide) rfl (fun ls hl => ?_)
        refine lv_iload_n S.x S.b d_Mpg_unary_29 rfl (lv_at hl 2 rfl) ?_
        refine lv_iload_n S.x S.b d_Mpg_unary_30 rfl (lv_at hl 3 rfl) ?_
        refine lv_iadd S.x S.b d_Mpg_unary_31 ?_
        refine lv_topi (fun z59 ez59 => ?_)
        have tz59 : z59.toInt = (x7_1.toInt + x7_2.toInt + 2147483648) % 4294967296 - 2147483648 := by rw [ez59]; exact i_add x7_1 x7_2
        have lz59 := Int32.le_toInt z59
        have uz59 := Int32.toInt_lt z59
        try replace tz59 : z59.toInt = x7_1.toInt + x7_2.toInt := by omega
        refine lv_iconst (v := 1) S.x S.b d_Mpg_unary_32 (by decide) ?_
        refine lv_isub S.x S.b d_Mpg_unary_33 ?_
        refine lv_topi (fun z60 ez60 => ?_)
        have tz60 : z60.toInt = (z59.toInt - (1 : Int) + 2147483648) % 4294967296 - 2147483648 := by rw [ez60]; exact i_sub z59 1
        have lz60 := Int32.le_toInt z60
        have uz60 := Int32.toInt_lt z60
        try replace tz60 : z60.toInt = z59.toInt - (1 : Int) := by omega
        refine lv_istore (lv' := [(4, .int z60), (3, .int v45), (0, .ref h), (1, .int x7_1), (2, .int x7_2)]) S.x S.b d_Mpg_unary_34 hl (by decide) rfl (fun ls hl => ?_)
        exact J36 ((z60.toInt - x7_1.toInt + 1).toNat + 1) pf40 na41 ma42 wa43 x7_1 x7_2 v45 z60 _ _ ls (show (pf40 24).toInt = (pf 24).toInt from by first | exact oz_1687f4cc65 k7_1 e52 | omega) (show (pf40 25).toInt = (pf 25).toInt from by first | exact oz_1687f4cc65 k7_2 e53 | omega) (show (pf40 26).toInt = (pf 26).toInt from by first | exact oz_1687f4cc65 k7_3 e54 | omega) (show x7_1.toInt = (pf 11).toInt from by first | exact k7_4 | omega) (show 0 ≤ x7_2.toInt from by first | exact k7_5 | omega) (show x7_2.toInt ≤ 60 from by first | exact oz_9bccc76440 k7_7 g3 k7_8 | omega) (show (pf40 12).toInt = (pf 12).toInt + x7_2.toInt from by first | exact oz_2245017a51 k7_7 e51 | omega) (show x7_1.toInt - 1 ≤ z60.toInt from by first | exact oz_617a127466 tz59 tz60 k7_5 | omega) (show z60.toInt < x7_1.toInt + x7_2.toInt from by first | exact oz_fbd1b191bd tz59 tz60 | omega) (show (pf 11).toInt + 1 ≤ (pf40 11).toInt from by first | exact oz_1c73979c71 k7_6 e46 k7_5 | omega) (show (pf40 11).toInt < (tf 6).toInt from by first | exact e47 | omega) (show (pf 11).toInt + x7_2.toInt < (tf 6).toInt from by first | exact oz_293b14259a k7_6 e47 e46 | omega) (show (pf 13).toInt + 1 ≤ (pf40 13).toInt from by first | exact oz_4495b4e10b k7_0 e48 | omega) (show (pf40 13).toInt - (pf 13).toInt ≤ (pf40 11).toInt - (pf 11).toInt - (z60.toInt + 1 - x7_1.toInt) from by first | exact oz_e32fa9118d k7_0 k7_6 e49 tz59 tz60 | omega) (show bp ta (pf 11) + 1 ≤ bp ta (pf40 11) from by first | with_reducible rfl | with_reducible assumption | omega) (show FrB (pf 13).toInt na ma na41 ma42 from hfb) (show FrW (pf 26).toInt wa wa43 from hfw) (show Mks ta (pf 11).toInt ((pf 11).toInt + x7_2.toInt) from (by first | exact hmks.le (by first | with_reducible rfl | with_reducible assumption | omega) (by first | with_reducible rfl | with_reducible assumption | omega) | exact hmks.step (y := (pf_7 11)) (by first | with_reducible rfl | with_reducible assumption | omega) (by first | with_reducible rfl | with_reducible assumption | omega) (by first | with_reducible rfl | with_reducible assumption | omega))) (show ExR ta (tf 6).toInt na41 ma42 v45 (pf 13).toInt (pf40 13).toInt (3 * (bp ta (pf40 11) - bp ta (pf 11)) - 3 * (z60.toInt + 1 - x7_1.toInt)) ((pf 12).toInt + (z60.toInt + 1 - x7_1.toInt)) from (ExR.le ht_v45 (by first | with_reducible rfl | with_reducible assumption | omega) (by first | with_reducible rfl | with_reducible assumption | omega) (by first | with_reducible rfl | with_reducible assumption | omega) (by first | with_reducible rfl | with_reducible assumption | omega))) (show FsI (tf 6).toInt (pf40 13).toInt na41 from (FsI.le hfs (by first | with_reducible rfl | with_reducible assumption | omega))) (show z60.toInt - x7_1.toInt + 1 < ((((z60.toInt - x7_1.toInt + 1).toNat + 1 : Nat) : Int) : Int) from by first | exact oz_natlt | omega) hw (lv_sub hl [2, 3, 4, 1, 0] rfl)
      · have nc35 : ¬ v32.toInt = (0 : Int) := mt (i_eq (x := v32) (y := 0)).mpr c35
        refine lv_aload_n S.x S.b d_Mpg_unary_14 rfl (lv_at hl 0 rfl) ?_
        refine th_callv (ps0 := [wdP cs h r g tf ta pf na ma wa cf ca ef ea xf xa]) (pr := []) (pcs := [wdP cs h r g tf ta pf_7 na ma wa cf ca ef ea xf xa]) (As := []) (rest := []) (c_mp_opens l D cs h r g tf ta na ma wa cf ca ef ea xf xa pf_7   (show 0 ≤ (pf_7 11).toInt from by first | exact oz_58f944d8b2 k7_6 g0 k7_5 | omega) (show (pf_7 11).toInt < (tf 6).toInt from by first | exact k7_9 | omega) (show (tf 6).toInt ≤ 2049 from by first | exact g2 | omega) (show (pf_7 11).toInt + 1 < (tf 6).toInt from by first | with_reducible rfl | with_reducible assumption | omega) (show 0 ≤ (pf_7 12).toInt from by first | exact oz_58f944d8b2 k7_7 g3 k7_5 | omega) (show (pf_7 12).toInt ≤ 60 from by first | exact k7_8 | omega) hlf htk) S hT hw (oX_call (P := (fun A U H => (oN A U H) ∧ (oP A g U H))) (pr := []) (oG_and oG_N oG_P) hw hA ⟨hN, hP⟩) (px_recv hT hw 0 0 rfl rfl rfl) m11_238 m11_235 m11_237 ms_9_1 m1_21 q_Mpg_opens ⟨show 7 + 1 ≤ (8 * lv + 17) from by first | with_reducible rfl | with_reducible assumption | omega, show 8 + (1 + 11) + 150 ≤ (220 * lv + 630) from by first | with_reducible rfl | with_reducible assumption | omega⟩ hl.1 rfl (Nat.le_of_ble_eq_true rfl) d_Mpg_unary_15 ⟨Nat.le_of_ble_eq_true rfl, Nat.le_of_ble_eq_true rfl⟩ hne hlk hA hAe (fun o t h => Or.inr h) ?_ (fun p63 H locs hp63 hw => ?_)
        · exact fun p1 H1 locs1 hp hw => by obtain ⟨pq1, pq2, pq3, pq4, rfl, hq1, hq2⟩ := hp; exact ⟨_, ⟨pq1, pq2, pq3, pq4, rfl, hq1, hq2⟩, hw⟩
        obtain ⟨pf62, rfl, e65, e66, e67, e68, e69, e70, e71, e72, e73, e74⟩ := hp63
        have e65 : (pf62 11).toInt = (pf_7 11).toInt + 1 := e65
        have e66 : (pf62 11).toInt < (tf 6).toInt := e66
        have e67 : bp ta (pf_7 11) + sz ta (pf_7 11) ≤ bp ta (pf62 11) := e67
        have e68 : 1 ≤ sz ta (pf_7 11) := e68
        have e69 : (pf62 12).toInt = (pf_7 12).toInt + 1 := e69
        have e70 : (pf_7 12).toInt < 60 := e70
        have e71 : (pf62 13).toInt = (pf_7 13).toInt := e71
        have e72 : (pf62 24).toInt = (pf_7 24).toInt := e72
        have e73 : (pf62 25).toInt = (pf_7 25).toInt := e73
        have e74 : (pf62 26).toInt = (pf_7 26).toInt := e74
        have hw : pw D A s.heap H locs [wdP cs h r g tf ta pf62 na ma wa cf ca ef ea xf xa] := hw
        obtain ⟨z75, ez75⟩ : ∃ y : Int32, y = x7_2 + 1 := ⟨_, rfl⟩
        have tz75 : z75.toInt = (x7_2.toInt + 1 + 2147483648) % 4294967296 - 2147483648 := by rw [ez75]; exact i_add x7_2 1
        have lz75 := Int32.le_toInt z75
        have uz75 := Int32.toInt_lt z75
        try replace tz75 : z75.toInt = x7_2.toInt + 1 := by omega
        refine lv_iinc (v := z75) (lv' := [(2, .int z75), (0, .ref h), (1, .int x7_1)]) S.x S.b d_Mpg_unary_18 hl (k := 2) rfl (by rw [ez75]; rfl) (by decide) rfl (fun ls hl => ?_)
        refine lv_goto (tgt := 7) S.x S.b d_Mpg_unary_21 (by decide) ?_
        exact ih7 pf62 x7_1 z75 _ _ ls (show (pf62 13).toInt = (pf 13).toInt from by first | exact oz_1687f4cc65 k7_0 e71 | omega) (show (pf62 24).toInt = (pf 24).toInt from by first | exact oz_1687f4cc65 k7_1 e72 | omega) (show (pf62 25).toInt = (pf 25).toInt from by first | exact oz_1687f4cc65 k7_2 e73 | omega) (show (pf62 26).toInt = (pf 26).toInt from by first | exact oz_1687f4cc65 k7_3 e74 | omega) (show x7_1.toInt = (pf 11).toInt from by first | exact k7_4 | omega) (show 0 ≤ z75.toInt from by first | exact oz_ae613611c0 tz75 k7_5 | omega) (show (pf62 11).toInt = (pf 11).toInt + z75.toInt from by first | exact oz_d5f2eb533b k7_6 e65 tz75 | omega) (show (pf62 12).toInt = (pf 12).toInt + z75.toInt from by first | exact oz_d5f2eb533b k7_7 e69 tz75 | omega) (show (pf62 12).toInt ≤ 60 from by first | exact oz_6710fd9021 e69 e70 | omega) (show (pf62 11).toInt < (tf 6).toInt from by first | exact e66 | omega) (show bp ta (pf 11) + z75.toInt ≤ bp ta (pf62 11) from by first | with_reducible rfl | with_reducible assumption | omega) (show Mks ta (pf 11).toInt ((pf 11).toInt + z75.toInt) from (by first | exact hmks.le (by first | with_reducible rfl | with_reducible assumption | omega) (by first | with_reducible rfl | with_reducible assumption | omega) | exact hmks.step (y := (pf_7 11)) (by first | with_reducible rfl | with_reducible assumption | omega) (by first | with_reducible rfl | with_reducible assumption | omega) (by first | with_reducible rfl | with_reducible assumption | omega))) (show (tf 6).toInt - (pf62 11).toInt < (n_7 : Int) from by first | exact oz_84050b1295 hm e65 | omega) hw (lv_sub hl [1, 2, 0] rfl)
  refine lv_aload_n S.x S.b d_Mpg_unary_0 rfl (lv_at hl 0 rfl) ?_
  refine px_get S k_Mpg hT hw 0 0 11 (v := .int (pf 11)) rfl rfl rfl (by decide) m9_235 d_Mpg_unary_1 ?_
  refine lv_istore_n (lv' := [(1, .int (pf 11)), (0, .ref h)]) S.x S.b d_Mpg_unary_4 rfl hl (by decide) rfl (fun ls hl => ?_)
  refine lv_iconst (v := 0) S.x S.b d_Mpg_unary_5 (by decide) ?_
  refine lv_istore_n (lv' := [(2, .int 0), (1, .int (pf 11)), (0, .ref h)]) S.x S.b d_Mpg_unary_6 rfl hl (by decide) rfl (fun ls hl => ?_)
  exact J7 (((tf 6).toInt - (pf 11).toInt).toNat + 1) pf (pf 11) (0 : Int32) _ _ ls (show (pf 13).toInt = (pf 13).toInt from rfl) (show (pf 24).toInt = (pf 24).toInt from rfl) (show (pf 25).toInt = (pf 25).toInt from rfl) (show (pf 26).toInt = (pf 26).toInt from rfl) (show (pf 11).toInt = (pf 11).toInt from rfl) (show 0 ≤ (0 : Int) from by first | decide | omega) (show (pf 11).toInt = (pf 11).toInt + (0 : Int) from by first | exact oz_efca365a44 | omega) (show (pf 12).toInt = (pf 12).toInt + (0 : Int) from by first | exact oz_efca365a44 | omega) (show (pf 12).toInt ≤ 60 from by first | exact g4 | omega) (show (pf 11).toInt < (tf 6).toInt from by first | exact g1 | omega) (show bp ta (pf 11) + (0 : Int) ≤ bp ta (pf 11) from by first | with_reducible rfl | with_reducible assumption | omega) (show Mks ta (pf 11).toInt ((pf 11).toInt + (0 : Int)) from (Mks.none (by first | with_reducible rfl | with_reducible assumption | omega))) (show (tf 6).toInt - (pf 11).toInt < (((((tf 6).toInt - (pf 11).toInt).toNat + 1 : Nat) : Int) : Int) from by first | exact oz_natlt | omega) hw (lv_sub hl [2, 1, 0] rfl)
