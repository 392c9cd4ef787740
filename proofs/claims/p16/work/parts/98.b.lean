theorem m12_90 : Cond.methodLink "HomeSystemModel$Program" 509 ⟨"HomeSystemModel$Program", "parameter", "()I"⟩ ∈ AL := AL_12 (List.mem_of_getElem? (i := 90) rfl) rfl
theorem m12_93 : Cond.code ⟨"HomeSystemModel$Program", "parameter", "()I"⟩ prog_16_method_59_code 3 (Option.some FieldType.int) ∈ AL := AL_12 (List.mem_of_getElem? (i := 93) rfl) rfl
theorem ms_10_8 : Cond.selects "HomeSystemModel$Program" ⟨"HomeSystemModel$Program", "parameter", "()I"⟩ ⟨"HomeSystemModel$Program", "parameter", "()I"⟩ ∈ AL := AL_p (q := (⟨"HomeSystemModel$Program", "parameter", "()I"⟩, 69)) (by unfold lw_privs; exact List.mem_append_right _ (List.mem_append_right _ (List.mem_append_right _ (List.mem_append_right _ (List.mem_append_right _ (List.mem_append_right _ (List.mem_append_right _ (List.mem_append_right _ (List.mem_append_right _ (List.mem_append_left _ (List.mem_of_getElem? (i := 8) rfl)))))))))))
theorem m12_92 : Cond.instanceMethod ⟨"HomeSystemModel$Program", "parameter", "()I"⟩ ∈ AL := AL_12 (List.mem_of_getElem? (i := 92) rfl) rfl
theorem m12_86 : Cond.methodLink "HomeSystemModel$Program" 515 ⟨"HomeSystemModel$Program", "functionText", "(II)V"⟩ ∈ AL := AL_12 (List.mem_of_getElem? (i := 86) rfl) rfl
theorem m12_89 : Cond.code ⟨"HomeSystemModel$Program", "functionText", "(II)V"⟩ prog_16_method_60_code 6 (Option.none : Option Jvm.ClassFile.FieldType) ∈ AL := AL_12 (List.mem_of_getElem? (i := 89) rfl) rfl
theorem ms_10_7 : Cond.selects "HomeSystemModel$Program" ⟨"HomeSystemModel$Program", "functionText", "(II)V"⟩ ⟨"HomeSystemModel$Program", "functionText", "(II)V"⟩ ∈ AL := AL_p (q := (⟨"HomeSystemModel$Program", "functionText", "(II)V"⟩, 69)) (by unfold lw_privs; exact List.mem_append_right _ (List.mem_append_right _ (List.mem_append_right _ (List.mem_append_right _ (List.mem_append_right _ (List.mem_append_right _ (List.mem_append_right _ (List.mem_append_right _ (List.mem_append_right _ (List.mem_append_left _ (List.mem_of_getElem? (i := 7) rfl)))))))))))
theorem m12_88 : Cond.instanceMethod ⟨"HomeSystemModel$Program", "functionText", "(II)V"⟩ ∈ AL := AL_12 (List.mem_of_getElem? (i := 88) rfl) rfl
theorem m11_202 : Cond.methodLink "HomeSystemModel$Program" 512 ⟨"HomeSystemModel$Program", "enumeration", "()V"⟩ ∈ AL := AL_11 (List.mem_of_getElem? (i := 202) rfl) rfl
theorem m11_205 : Cond.code ⟨"HomeSystemModel$Program", "enumeration", "()V"⟩ prog_16_method_58_code 5 (Option.none : Option Jvm.ClassFile.FieldType) ∈ AL := AL_11 (List.mem_of_getElem? (i := 205) rfl) rfl
theorem ms_8_11 : Cond.selects "HomeSystemModel$Program" ⟨"HomeSystemModel$Program", "enumeration", "()V"⟩ ⟨"HomeSystemModel$Program", "enumeration", "()V"⟩ ∈ AL := AL_p (q := (⟨"HomeSystemModel$Program", "enumeration", "()V"⟩, 69)) (by unfold lw_privs; exact List.mem_append_right _ (List.mem_append_right _ (List.mem_append_right _ (List.mem_append_right _ (List.mem_append_right _ (List.mem_append_right _ (List.mem_append_right _ (List.mem_append_left _ (List.mem_of_getElem? (i := 11) rfl)))))))))
theorem m11_204 : Cond.instanceMethod ⟨"HomeSystemModel$Program", "enumeration", "()V"⟩ ∈ AL := AL_11 (List.mem_of_getElem? (i := 204) rfl) rfl
theorem m11_194 : Cond.methodLink "HomeSystemModel$Program" 519 ⟨"HomeSystemModel$Program", "piece", "()V"⟩ ∈ AL := AL_11 (List.mem_of_getElem? (i := 194) rfl) rfl
theorem m11_197 : Cond.code ⟨"HomeSystemModel$Program", "piece", "()V"⟩ prog_16_method_61_code 4 (Option.none : Option Jvm.ClassFile.FieldType) ∈ AL := AL_11 (List.mem_of_getElem? (i := 197) rfl) rfl
theorem ms_8_9 : Cond.selects "HomeSystemModel$Program" ⟨"HomeSystemModel$Program", "piece", "()V"⟩ ⟨"HomeSystemModel$Program", "piece", "()V"⟩ ∈ AL := AL_p (q := (⟨"HomeSystemModel$Program", "piece", "()V"⟩, 69)) (by unfold lw_privs; exact List.mem_append_right _ (List.mem_append_right _ (List.mem_append_right _ (List.mem_append_right _ (List.mem_append_right _ (List.mem_append_right _ (List.mem_append_right _ (List.mem_append_left _ (List.mem_of_getElem? (i := 9) rfl)))))))))
theorem m11_196 : Cond.instanceMethod ⟨"HomeSystemModel$Program", "piece", "()V"⟩ ∈ AL := AL_11 (List.mem_of_getElem? (i := 196) rfl) rfl
abbrev b_Mpg_functionText : ByteArray := prog_16_method_60_code
def y_Mpg_functionText : MethodName := ⟨"HomeSystemModel$Program", "functionText", "(II)V"⟩
theorem d_Mpg_functionText_0 : decode b_Mpg_functionText 0 = .ok (.aload_n 0, 1) := by decide +kernel
theorem d_Mpg_functionText_1 : decode b_Mpg_functionText 1 = .ok (.bipush 41, 2) := by decide +kernel
theorem d_Mpg_functionText_3 : decode b_Mpg_functionText 3 = .ok (.iload_n 2, 1) := by decide +kernel
theorem d_Mpg_functionText_4 : decode b_Mpg_functionText 4 = .ok (.invokevirtual 406, 3) := by decide +kernel
theorem d_Mpg_functionText_7 : decode b_Mpg_functionText 7 = .ok (.istore_n 3, 1) := by decide +kernel
theorem d_Mpg_functionText_8 : decode b_Mpg_functionText 8 = .ok (.aload_n 0, 1) := by decide +kernel
theorem d_Mpg_functionText_9 : decode b_Mpg_functionText 9 = .ok (.getfield 231, 3) := by decide +kernel
theorem d_Mpg_functionText_12 : decode b_Mpg_functionText 12 = .ok (.iload_n 3, 1) := by decide +kernel
theorem d_Mpg_functionText_13 : decode b_Mpg_functionText 13 = .ok (.iload_n 1, 1) := by decide +kernel
theorem d_Mpg_functionText_14 : decode b_Mpg_functionText 14 = .ok (.iastore, 1) := by decide +kernel
theorem d_Mpg_functionText_15 : decode b_Mpg_functionText 15 = .ok (.aload_n 0, 1) := by decide +kernel
theorem d_Mpg_functionText_16 : decode b_Mpg_functionText 16 = .ok (.ldc 87, 2) := by decide +kernel
theorem d_Mpg_functionText_18 : decode b_Mpg_functionText 18 = .ok (.invokevirtual 457, 3) := by decide +kernel
theorem d_Mpg_functionText_21 : decode b_Mpg_functionText 21 = .ok (.aload_n 0, 1) := by decide +kernel
theorem d_Mpg_functionText_22 : decode b_Mpg_functionText 22 = .ok (.iconst 2, 1) := by decide +kernel
theorem d_Mpg_functionText_23 : decode b_Mpg_functionText 23 = .ok (.invokevirtual 377, 3) := by decide +kernel
theorem d_Mpg_functionText_26 : decode b_Mpg_functionText 26 = .ok (.ifCond .eq 16, 3) := by decide +kernel
theorem d_Mpg_functionText_29 : decode b_Mpg_functionText 29 = .ok (.aload_n 0, 1) := by decide +kernel
theorem d_Mpg_functionText_30 : decode b_Mpg_functionText 30 = .ok (.dup, 1) := by decide +kernel
theorem d_Mpg_functionText_31 : decode b_Mpg_functionText 31 = .ok (.getfield 360, 3) := by decide +kernel
theorem d_Mpg_functionText_34 : decode b_Mpg_functionText 34 = .ok (.iconst 1, 1) := by decide +kernel
theorem d_Mpg_functionText_35 : decode b_Mpg_functionText 35 = .ok (.iadd, 1) := by decide +kernel
theorem d_Mpg_functionText_36 : decode b_Mpg_functionText 36 = .ok (.putfield 360, 3) := by decide +kernel
theorem d_Mpg_functionText_39 : decode b_Mpg_functionText 39 = .ok (.goto 57, 3) := by decide +kernel
theorem d_Mpg_functionText_42 : decode b_Mpg_functionText 42 = .ok (.aload_n 0, 1) := by decide +kernel
theorem d_Mpg_functionText_43 : decode b_Mpg_functionText 43 = .ok (.ldc 89, 2) := by decide +kernel
theorem d_Mpg_functionText_45 : decode b_Mpg_functionText 45 = .ok (.invokevirtual 366, 3) := by decide +kernel
theorem d_Mpg_functionText_48 : decode b_Mpg_functionText 48 = .ok (.ifCond .ne 48, 3) := by decide +kernel
theorem d_Mpg_functionText_51 : decode b_Mpg_functionText 51 = .ok (.aload_n 0, 1) := by decide +kernel
theorem d_Mpg_functionText_52 : decode b_Mpg_functionText 52 = .ok (.invokevirtual 509, 3) := by decide +kernel
theorem d_Mpg_functionText_55 : decode b_Mpg_functionText 55 = .ok (.istore 4, 2) := by decide +kernel
theorem d_Mpg_functionText_57 : decode b_Mpg_functionText 57 = .ok (.aload_n 0, 1) := by decide +kernel
theorem d_Mpg_functionText_58 : decode b_Mpg_functionText 58 = .ok (.getfield 216, 3) := by decide +kernel
theorem d_Mpg_functionText_61 : decode b_Mpg_functionText 61 = .ok (.iload_n 3, 1) := by decide +kernel
theorem d_Mpg_functionText_62 : decode b_Mpg_functionText 62 = .ok (.iload 4, 2) := by decide +kernel
theorem d_Mpg_functionText_64 : decode b_Mpg_functionText 64 = .ok (.iastore, 1) := by decide +kernel
theorem d_Mpg_functionText_65 : decode b_Mpg_functionText 65 = .ok (.aload_n 0, 1) := by decide +kernel
theorem d_Mpg_functionText_66 : decode b_Mpg_functionText 66 = .ok (.ldc 99, 2) := by decide +kernel
theorem d_Mpg_functionText_68 : decode b_Mpg_functionText 68 = .ok (.invokevirtual 370, 3) := by decide +kernel
theorem d_Mpg_functionText_71 : decode b_Mpg_functionText 71 = .ok (.ifCond .eq 25, 3) := by decide +kernel
theorem d_Mpg_functionText_74 : decode b_Mpg_functionText 74 = .ok (.aload_n 0, 1) := by decide +kernel
theorem d_Mpg_functionText_75 : decode b_Mpg_functionText 75 = .ok (.invokevirtual 509, 3) := by decide +kernel
theorem d_Mpg_functionText_78 : decode b_Mpg_functionText 78 = .ok (.istore 5, 2) := by decide +kernel
theorem d_Mpg_functionText_80 : decode b_Mpg_functionText 80 = .ok (.aload_n 0, 1) := by decide +kernel
theorem d_Mpg_functionText_81 : decode b_Mpg_functionText 81 = .ok (.getfield 228, 3) := by decide +kernel
theorem d_Mpg_functionText_84 : decode b_Mpg_functionText 84 = .ok (.iload 4, 2) := by decide +kernel
theorem d_Mpg_functionText_86 : decode b_Mpg_functionText 86 = .ok (.iload 5, 2) := by decide +kernel
theorem d_Mpg_functionText_88 : decode b_Mpg_functionText 88 = .ok (.iastore, 1) := by decide +kernel
theorem d_Mpg_functionText_89 : decode b_Mpg_functionText 89 = .ok (.iload 5, 2) := by decide +kernel
theorem d_Mpg_functionText_91 : decode b_Mpg_functionText 91 = .ok (.istore 4, 2) := by decide +kernel
theorem d_Mpg_functionText_93 : decode b_Mpg_functionText 93 = .ok (.goto (-28), 3) := by decide +kernel
theorem d_Mpg_functionText_96 : decode b_Mpg_functionText 96 = .ok (.aload_n 0, 1) := by decide +kernel
theorem d_Mpg_functionText_97 : decode b_Mpg_functionText 97 = .ok (.ldc 89, 2) := by decide +kernel
theorem d_Mpg_functionText_99 : decode b_Mpg_functionText 99 = .ok (.invokevirtual 439, 3) := by decide +kernel
theorem d_Mpg_functionText_102 : decode b_Mpg_functionText 102 = .ok (.aload_n 0, 1) := by decide +kernel
theorem d_Mpg_functionText_103 : decode b_Mpg_functionText 103 = .ok (.getfield 219, 3) := by decide +kernel
theorem d_Mpg_functionText_106 : decode b_Mpg_functionText 106 = .ok (.iload_n 3, 1) := by decide +kernel
theorem d_Mpg_functionText_107 : decode b_Mpg_functionText 107 = .ok (.aload_n 0, 1) := by decide +kernel
theorem d_Mpg_functionText_108 : decode b_Mpg_functionText 108 = .ok (.invokevirtual 470, 3) := by decide +kernel
theorem d_Mpg_functionText_111 : decode b_Mpg_functionText 111 = .ok (.iastore, 1) := by decide +kernel
theorem d_Mpg_functionText_112 : decode b_Mpg_functionText 112 = .ok (.aload_n 0, 1) := by decide +kernel
theorem d_Mpg_functionText_113 : decode b_Mpg_functionText 113 = .ok (.iload_n 3, 1) := by decide +kernel
theorem d_Mpg_functionText_114 : decode b_Mpg_functionText 114 = .ok (.invokevirtual 506, 3) := by decide +kernel
theorem d_Mpg_functionText_117 : decode b_Mpg_functionText 117 = .ok (.return_, 1) := by decide +kernel
theorem q_Mpg_functionText : px_y y_Mpg_functionText 2 := by unfold px_y; decide +kernel
set_option maxHeartbeats 4000000 in
set_option maxRecDepth 100000 in
theorem c_mp_functionText (l : Launch) (D : va_G) (cs : Nat → ClassId) (h : Nat) (r : Nat → Nat) (g : Nat → Nat → Option Nat) (tf : Nat → Int32) (ta : Nat → Nat → Int32) (cf : Nat → Int32) (ca : Nat → Nat → Int32) (ef : Nat → Int32) (ea : Nat → Nat → Int32) (xf : Nat → Int32) (xa : Nat → Nat → Int32) (pf : Nat → Int32) (na : Nat → Nat → Int32) (ma : Nat → Nat → Int32) (wa : Nat → Nat → Int32) (p0 p1 : Int32)  (g0 : 0 ≤ (pf 11).toInt) (g1 : (pf 11).toInt < (tf 6).toInt) (g2 : (tf 6).toInt ≤ 2049) (g3 : (pf 12).toInt = 0) (g4 : 0 ≤ (pf 13).toInt) (g5 : (pf 13).toInt ≤ (pf 11).toInt + 10) (g6 : (pf 26).toInt = 0) (g7 : -1 ≤ (pf 25).toInt) (g8 : (pf 25).toInt < (pf 13).toInt) (g9 : 0 ≤ p0.toInt) (g10 : p0.toInt ≤ 2) (g11 : 0 ≤ p1.toInt) (g12 : p1.toInt < (tf 6).toInt) (g13 : 4 ≤ bp ta (pf 11)) (hlf : l.flags = pinnedFlags ++ [noTraceFlag]) (htk : TkI tf ta) (hso1 : SoIs ta p1 1) (hzg : RzG ta (tf 6).toInt na ma (pf 24) (pf 25) 0 (pf 13).toInt (3 * bp ta (pf 11) - 12) 200) : ThV l y_Mpg_functionText b_Mpg_functionText 6 D cs (8 * 61 + 30) (220 * 61 + 1360) [.ref h, .int p0, .int p1] [wdP cs h r g tf ta pf na ma wa cf ca ef ea xf xa] (oX (fun A U H => (oN A U H) ∧ (oP A g U H)) [wdP cs h r g tf ta pf na ma wa cf ca ef ea xf xa]) "java/lang/IllegalArgumentException" (fun ps => ∃ (pf' : Nat → Int32) (na' : Nat → Nat → Int32) (ma' : Nat → Nat → Int32) (wa' : Nat → Nat → Int32), (ps = [wdP cs h r g tf ta pf' na' ma' wa' cf ca ef ea xf xa]) ∧ ((pf 11).toInt + 1 ≤ (pf' 11).toInt) ∧ ((pf' 11).toInt < (tf 6).toInt) ∧ ((pf 13).toInt ≤ (pf' 13).toInt) ∧ ((pf' 13).toInt - (pf 13).toInt ≤ (pf' 11).toInt - (pf 11).toInt) ∧ (bp ta (pf 11) + 1 ≤ bp ta (pf' 11)) ∧ ((pf' 12).toInt = 0) ∧ ((pf' 26).toInt = 0) ∧ (-1 ≤ (pf' 25).toInt) ∧ ((pf' 25).toInt < (pf' 13).toInt) ∧ (RzG ta (tf 6).toInt na' ma' (pf' 24) (pf' 25) 0 (pf' 13).toInt (3 * bp ta (pf' 11)) 200)) (fun ps => ∃ (pf' : Nat → Int32) (na' : Nat → Nat → Int32) (ma' : Nat → Nat → Int32) (wa' : Nat → Nat → Int32), ps = [wdP cs h r g tf ta pf' na' ma' wa' cf ca ef ea xf xa] ∧ 0 ≤ (pf' 11).toInt ∧ (pf' 11).toInt + 1 ≤ (tf 6).toInt) := by
  refine th_enter (by decide) (Nat.le_of_ble_eq_true rfl) ?_
  intro p e s m below meth c A ls hAe S hr hlk hnm hA hT hX hw hl hne hadm
  have hl : lv_has ls 6 [(0, .ref h), (1, .int p0), (2, .int p1)] := hl
  have lp0 := Int32.le_toInt p0
  have up0 := Int32.toInt_lt p0
  have lp1 := Int32.le_toInt p1
  have up1 := Int32.toInt_lt p1
  have cst1 : (1 : Int32).toInt = 1 := rfl
  have cst2 : (2 : Int32).toInt = 2 := rfl
  have cst41 : (41 : Int32).toInt = 41 := rfl
  have hX : (fun A U H => (oN A U H) ∧ (oP A g U H)) A s s.heap := by rw [hAe]; exact hX
  obtain ⟨hN, hP⟩ := hX
  have hZ := hP.1
  have hF0 := hP.2.1
  obtain ⟨lv, hlv⟩ : ∃ y : Nat, y = 61 := ⟨_, rfl⟩
  have hfb : FrB 0 na ma na ma := FrB.rf
  have hfw : FrW (pf 26).toInt wa wa := FrW.rf
  have hb11 := tk_b htk (x := (pf 11)) (by omega) (by omega)
  have hso1 : so ta p1 = 1 := hso1
  have J96 : ∀ (pf_96 : Nat → Int32) (na_96 : Nat → Nat → Int32) (ma_96 : Nat → Nat → Int32) (wa_96 : Nat → Nat → Int32) (x96_3 : Int32) (H : Heap) (locs : List Loc) (ls : Array Slot), ((pf_96 12).toInt = 1) → ((pf_96 26).toInt = 0) → ((pf_96 24).toInt = (pf 24).toInt) → ((pf_96 25).toInt = (pf 25).toInt) → ((pf 11).toInt + 1 ≤ (pf_96 11).toInt) → ((pf_96 11).toInt < (tf 6).toInt) → (x96_3.toInt = (pf 13).toInt) → (x96_3.toInt < (pf_96 13).toInt) → ((pf_96 13).toInt - (pf 13).toInt ≤ (pf_96 11).toInt - (pf 11).toInt + 1) → (bp ta (pf 11) + 1 ≤ bp ta (pf_96 11)) → (FrB 0 na ma na_96 ma_96) → (FrW (pf 26).toInt wa wa_96) → (NdF (tf 6).toInt na_96 x96_3 41 p1) → (FlN ma_96 22 x96_3 p0) → (RzG ta (tf 6).toInt na_96 ma_96 (pf 24) (pf 25) 0 (pf 13).toInt (3 * bp ta (pf 11) - 12) 200) → (LfP ta (tf 6).toInt na_96 ma_96 (na_96 17) x96_3 (x96_3.toInt + 1) (pf_96 13).toInt (3 * (bp ta (pf_96 11) - bp ta (pf 11)) - 3) 200) → pw D A s.heap H locs [wdP cs h r g tf ta pf_96 na_96 ma_96 wa_96 cf ca ef ea xf xa] → lv_has ls 6 [(0, .ref h), (1, .int p0), (2, .int p1), (3, .int x96_3)] → W p l e { frames := (8 * 61 + 30), cells := 1, slots := 6, locals := (220 * 61 + 1360) } s m [.ref h, .int p0, .int p1].toArray below meth c H locs 0 0 (tx_MQ below (thQv D (va_A ([wdP cs h r g tf ta pf na ma wa cf ca ef ea xf xa] : List va_W).flatten s.heap.size) "java/lang/IllegalArgumentException" (fun ps => ∃ (pf' : Nat → Int32) (na' : Nat → Nat → Int32) (ma' : Nat → Nat → Int32) (wa' : Nat → Nat → Int32), (ps = [wdP cs h r g tf ta pf' na' ma' wa' cf ca ef ea xf xa]) ∧ ((pf 11).toInt + 1 ≤ (pf' 11).toInt) ∧ ((pf' 11).toInt < (tf 6).toInt) ∧ ((pf 13).toInt ≤ (pf' 13).toInt) ∧ ((pf' 13).toInt - (pf 13).toInt ≤ (pf' 11).toInt - (pf 11).toInt) ∧ (bp ta (pf 11) + 1 ≤ bp ta (pf' 11)) ∧ ((pf' 12).toInt = 0) ∧ ((pf' 26).toInt = 0) ∧ (-1 ≤ (pf' 25).toInt) ∧ ((pf' 25).toInt < (pf' 13).toInt) ∧ (RzG ta (tf 6).toInt na' ma' (pf' 24) (pf' 25) 0 (pf' 13).toInt (3 * bp ta (pf' 11)) 200)) (fun ps => ∃ (pf' : Nat → Int32) (na' : Nat → Nat → Int32) (ma' : Nat → Nat → Int32) (wa' : Nat → Nat → Int32), ps = [wdP cs h r g tf ta pf' na' ma' wa' cf ca ef ea xf xa] ∧ 0 ≤ (pf' 11).toInt ∧ (pf' 11).toInt + 1 ≤ (tf 6).toInt) s.heap.size (tot s.heap)) [.ref h, .int p0, .int p1].toArray s 1 6 A) (F0 m 96 ls []) := by
    intro pf_96 na_96 ma_96 wa_96 x96_3 H locs ls k96_0 k96_1 k96_2 k96_3 k96_4 k96_5 k96_6 k96_7 k96_8 k96_9 k96_10 k96_11 k96_12 k96_13 k96_14 k96_15 hw hl
    have lx96_3 := Int32.le_toInt x96_3
    have ux96_3 := Int32.toInt_lt x96_3
    have hfb := k96_10
    have hfw := k96_11
    have hf_14_x96_3 := k96_12.2.1
    have hf_15_x96_3 := k96_12.2.2.1
    have hf_21_x96_3 := k96_12.2.2.2.2
    have hnt_x96_3 := k96_12.2.2.2.1
    have hf_22_x96_3 : ma_96 22 x96_3.toNatClampNeg = p0 := k96_13
    have hzg := k96_14
    obtain ⟨xl2, b1, hf_17_x96_3, hz_xl2⟩ := k96_15
    have hwz_xl2 := hz_xl2.wpos
    refine lv_aload_n S.x S.b d_Mpg_functionText_96 rfl (lv_at hl 0 rfl) ?_
    obtain ⟨sk3, hRsk3, st4, sb5, hSsk3⟩ := oP_lit hP (k := 89) (tx := ")") (n := 1) (List.mem_of_getElem? (i := 36) rfl)
    refine va_ldcS S.x S.b S.own hRsk3 d_Mpg_functionText_97 ?_
    refine th_callv (ps0 := [wdP cs h r g tf ta pf na ma wa cf ca ef ea xf xa]) (pr := []) (pcs := [wdP cs h r g tf ta pf_96 na_96 ma_96 wa_96 cf ca ef ea xf xa]) (As := [.ref sk3]) (rest := []) (c_mp_closes l D cs sk3 1 h r g tf ta na_96 ma_96 wa_96 cf ca ef ea xf xa pf_96   (show 0 ≤ (pf_96 11).toInt from by omega) (show (pf_96 11).toInt < (tf 6).toInt from by omega) (show (tf 6).toInt ≤ 2049 from by omega) (show 1 ≤ (pf_96 12).toInt from by omega) (show (pf_96 12).toInt ≤ 60 from by omega) (show 1 ≤ 100 from by omega) hlf htk) S hT hw (oX_call (P := (fun A U H => (oN A U H) ∧ (oP A g U H) ∧ (StS A sk3 1 U H))) (pr := []) (oG_and oG_N (oG_and oG_P oG_Q)) hw hA ⟨hN, hP, ⟨_, _, hSsk3⟩⟩) (px_recv hT hw 0 0 rfl rfl rfl) m12_53 m12_50 m12_52 ms_9_14 m1_21 q_Mpg_closes ⟨show 8 + 1 ≤ (8 * 61 + 30) from by omega, show 8 + (2 + 11) + 280 ≤ (220 * 61 + 1360) from by omega⟩ hl.1 rfl (Nat.le_of_ble_eq_true rfl) d_Mpg_functionText_99 ⟨Nat.le_of_ble_eq_true rfl, Nat.le_of_ble_eq_true rfl⟩ hne hlk hA hAe (fun o t h => Or.inr h) ?_ (fun p8 H locs hp8 hw => ?_)
    · exact fun p1 H1 locs1 hp hw => by obtain ⟨pq1, pq2, pq3, pq4, rfl, hq1, hq2⟩ := hp; exact ⟨_, ⟨pq1, pq2, pq3, pq4, rfl, hq1, hq2⟩, hw⟩
    obtain ⟨pf7, rfl, e10, e11, e12, e13, e14, e15, e16, e17⟩ := hp8
    have e10 : (pf7 11).toInt = (pf_96 11).toInt + 1 := e10
    have e11 : (pf7 11).toInt < (tf 6).toInt := e11
    have e12 : bp ta (pf_96 11) + 1 ≤ bp ta (pf7 11) := e12
    have e13 : (pf7 12).toInt = (pf_96 12).toInt - 1 := e13
    have e14 : (pf7 13).toInt = (pf_96 13).toInt := e14
    have e15 : (pf7 24).toInt = (pf_96 24).toInt := e15
    have e16 : (pf7 25).toInt = (pf_96 25).toInt := e16
    have e17 : (pf7 26).toInt = (pf_96 26).toInt := e17
    have hw : pw D A s.heap H locs [wdP cs h r g tf ta pf7 na_96 ma_96 wa_96 cf ca ef ea xf xa] := hw
    refine lv_aload_n S.x S.b d_Mpg_functionText_102 rfl (lv_at hl 0 rfl) ?_
    refine px_get S k_Mpg hT hw 0 0 18 (v := .ref (r 18)) rfl rfl rfl (by decide) m10_3 d_Mpg_functionText_103 ?_
    refine lv_iload_n S.x S.b d_Mpg_functionText_106 rfl (lv_at hl 3 rfl) ?_
    refine lv_aload_n S.x S.b d_Mpg_functionText_107 rfl (lv_at hl 0 rfl) ?_
    refine th_calli (ps0 := [wdP cs h r g tf ta pf na ma wa cf ca ef ea xf xa]) (pr := []) (pcs := [wdP cs h r g tf ta pf7 na_96 ma_96 wa_96 cf ca ef ea xf xa]) (As := []) (rest := [.int x96_3, .ref (r 18)]) (c_S_block l D cs h r g tf ta cf ca ef ea xf xa pf7 na_96 ma_96 wa_96  lv (show 0 ≤ (pf7 11).toInt from by omega) (show (pf7 11).toInt < (tf 6).toInt from by omega) (show (tf 6).toInt ≤ 2049 from by omega) (show 0 ≤ (pf7 12).toInt from by omega) (show (pf7 12).toInt ≤ 60 from by omega) (show 0 ≤ (pf7 13).toInt from by omega) (show (pf7 13).toInt ≤ (pf7 11).toInt + 10 from by omega) (show 0 ≤ (pf7 26).toInt from by omega) (show (pf7 26).toInt ≤ (pf7 12).toInt from by omega) (show 61 ≤ (pf7 12).toInt + (lv : Int) from by omega) (show lv ≤ 61 from by omega) hlf htk) S hT hw (oX_call (P := (fun A U H => (oN A U H) ∧ (oP A g U H))) (pr := []) (oG_and oG_N oG_P) hw hA ⟨hN, hP⟩) (px_recv hT hw 0 0 rfl rfl rfl) m12_97 m12_94 m12_96 ms_10_9 m1_21 q_Mpg_block ⟨show (8 * lv + 27) + 1 ≤ (8 * 61 + 30) from by omega, show 8 + (4 + 11) + (220 * lv + 1240) ≤ (220 * 61 + 1360) from by omega⟩ hl.1 rfl (Nat.le_of_ble_eq_true rfl) d_Mpg_functionText_108 ⟨Nat.le_of_ble_eq_true rfl, Nat.le_of_ble_eq_true rfl⟩ hne hlk hA hAe (fun o t h => Or.inr h) ?_ (fun v27 p26 H locs hp26 hw => ?_)
    · exact fun p1 H1 locs1 hp hw => by obtain ⟨pq1, pq2, pq3, pq4, rfl, hq1, hq2⟩ := hp; exact ⟨_, ⟨pq1, pq2, pq3, pq4, rfl, hq1, hq2⟩, hw⟩
    obtain ⟨pf22, na23, ma24, wa25, rfl, e28, e29, e30, e31, e32, e33, e34, e35, e36, e37, e38, e39, e40, e41⟩ := hp26
    have e28 : (pf7 11).toInt + 1 ≤ (pf22 11).toInt := e28
    have e29 : (pf22 11).toInt < (tf 6).toInt := e29
    have e30 : (pf7 13).toInt + 1 ≤ (pf22 13).toInt := e30
    have e31 : (pf22 13).toInt - (pf7 13).toInt ≤ (pf22 11).toInt - (pf7 11).toInt := e31
    have e32 : bp ta (pf7 11) + 1 ≤ bp ta (pf22 11) := e32
    have e33 : (pf22 12).toInt = (pf7 12).toInt := e33
    have e34 : (pf22 24).toInt = (pf7 24).toInt := e34
    have e35 : (pf22 25).toInt = (pf7 25).toInt := e35
    have e36 : (pf22 26).toInt = (pf7 26).toInt := e36
    have e37 : FrB (pf7 13).toInt na_96 ma_96 na23 ma24 := e37
    have hf_14_x96_3 := (fb_n e37 (by omega) (by omega)).trans hf_14_x96_3
    have hf_15_x96_3 := (fb_n e37 (by omega) (by omega)).trans hf_15_x96_3
    have hf_21_x96_3 := (fb_n e37 (by omega) (by omega)).trans hf_21_x96_3
    have hf_22_x96_3 := (fb_m e37 (by omega) (by omega)).trans hf_22_x96_3
    have hf_17_x96_3 := (fb_n e37 (by omega) (by omega)).trans hf_17_x96_3
    have hz_xl2 := hz_xl2.ag fp_ok (FrB.ag e37 (by omega))
    have hzg := hzg.ag fg_ok (FrB.ag e37 (by omega))
    have hfb := hfb.tr e37 (by omega)
    have e38 : FrW (pf7 26).toInt wa_96 wa25 := e38
    have hfw := hfw.tr e38 (by omega)
    have e39 : VlS ta (tf 6).toInt na23 ma24 v27 (pf7 13).toInt (pf22 13).toInt (3 * (bp ta (pf22 11) - bp ta (pf7 11))) (200 - (pf7 12).toInt) := e39
    have hv_v27 := e39
    have hn_hv_v27 := hv_v27.num fs_ok
    have e40 : bp ta (pf7 11) + 2 ≤ bp ta (pf22 11) := e40
    have e41 : BkN na23 v27 := e41
    have hf_14_v27 : na23 14 v27.toNatClampNeg = 20 := e41
    have hw : pw D A s.heap H locs [wdP cs h r g tf ta pf22 na23 ma24 wa25 cf ca ef ea xf xa] := hw
    have lv27 := Int32.le_toInt v27
    have uv27 := Int32.toInt_lt v27
    refine px_iast S hT hw 0 14 (n := 2100) (f := (ma24 18)) (x := x96_3) (y := v27) rfl gp_18 (vp_in_iff.mpr (by constructor <;> omega)) d_Mpg_functionText_111 (w' := wdP cs h r g tf ta pf22 na23 (va_up ma24 18 (upd (ma24 18) x96_3.toNatClampNeg v27)) wa25 cf ca ef ea xf xa) (ps' := [wdP cs h r g tf ta pf22 na23 (va_up ma24 18 (upd (ma24 18) x96_3.toNatClampNeg v27)) wa25 cf ca ef ea xf xa]) sp_18 rfl (fun H locs hw => ?_)
    obtain ⟨ma42, hu_ma42⟩ : ∃ y : Nat → Nat → Int32, y = va_up ma24 18 (upd (ma24 18) x96_3.toNatClampNeg v27) := ⟨_, rfl⟩
    have hw : pw D A s.heap _ _ [wdP cs h r g tf ta pf22 na23 ma42 wa25 cf ca ef ea xf xa] := (by rw [hu_ma42]; exact hw)
    have hz_xl2 := hz_xl2.ag fp_ok (ag_m hu_ma42 (by omega) (by omega))
    have hv_v27 := hv_v27.ag fs_ok (ag_m hu_ma42 (by omega) (by omega))
    have hf_22_x96_3 := (fl_n hu_ma42 (by decide)).trans hf_22_x96_3
    have hf_18_x96_3 : ma42 18 x96_3.toNatClampNeg = v27 := (by rw [hu_ma42, va_up_s, pk_us])
    have hfb : FrB 0 na ma na23 ma42 := (by rw [hu_ma42]; exact FrB.um hfb (by omega) (by omega))
    have hzg := hzg.ag fg_ok (ag_m hu_ma42 (by omega) (by omega))
    refine lv_aload_n S.x S.b d_Mpg_functionText_112 rfl (lv_at hl 0 rfl) ?_
    refine lv_iload_n S.x S.b d_Mpg_functionText_113 rfl (lv_at hl 3 rfl) ?_
    refine px_callv (pr := []) (px_runV (As := [.int x96_3]) (rest := []) S (c_mp_add l D cs h r g tf ta ma42 wa25 cf ca ef ea xf xa pf22 na23 x96_3  (show (pf22 25).toInt < 2100 from by omega) htk _) hT (pr := []) (pcs := [wdP cs h r g tf ta pf22 na23 ma42 wa25 cf ca ef ea xf xa]) hw px_X.tt (px_recv hT hw 0 0 rfl rfl rfl) m12_81 m12_78 m12_80 ms_10_5 m1_21 q_Mpg_add ⟨show 1 + 1 ≤ (8 * 61 + 30) from by omega, show 8 + (2 + 11) + 30 ≤ (220 * 61 + 1360) from by omega⟩ hl.1 rfl (Nat.le_of_ble_eq_true rfl) d_Mpg_functionText_114 ⟨Nat.le_of_ble_eq_true rfl, Nat.le_of_ble_eq_true rfl⟩) hw hA (fun p47 H locs hp47 hw => ?_)
    obtain ⟨pf45, na46, rfl, e49, e50, e51, e52, e53, e54⟩ := hp47
    have e49 : (pf45 11).toInt = (pf22 11).toInt := e49
    have e50 : (pf45 12).toInt = (pf22 12).toInt := e50
    have e51 : (pf45 13).toInt = (pf22 13).toInt := e51
    have e52 : (pf45 26).toInt = (pf22 26).toInt := e52
    have e53 : (pf45 25).toInt = x96_3.toInt := e53
    have e54 : Hg na23 na46 (pf22 24) (pf22 25) x96_3 (pf45 24) := e54
    have hvg := vg_fun (hi := (pf22 13).toInt) (D := 200) (x := xl2) (lo := x96_3.toInt + 1) (Wt := 3 * (bp ta (pf22 11) - bp ta (pf 11)) + 12) ⟨by omega, hf_14_x96_3, hf_15_x96_3, ⟨by omega, by omega⟩, hf_21_x96_3⟩ (by omega) (by omega) hf_22_x96_3 ⟨by omega, by omega⟩ (by rw [hf_17_x96_3]; exact RzV.le hz_xl2 (by omega) (by omega) (Int.le_refl _) (by omega)) hf_18_x96_3 hf_14_v27 (VlV.le hv_v27 (by omega) (by omega) (Int.le_refl _) (by omega)) (by omega) (by omega) (by omega)
    have hzg := Hg.row e54 fg_ok (rz_eq hzg (by omega) (by omega)) (VlV.le hvg (by omega) (Int.le_refl _) (Int.le_refl _) (by omega)) (by omega) (by omega)
    obtain ⟨qb551, qb552, qb553, qb554⟩ := tk_eq (ta := ta) (x := (pf45 11)) (y := (pf22 11)) (by omega)
    have hw : pw D A s.heap H locs [wdP cs h r g tf ta pf45 na46 ma42 wa25 cf ca ef ea xf xa] := hw
    exact th_vret S hr hlk hAe hw (⟨pf45, na46, ma42, wa25, rfl, (show (pf 11).toInt + 1 ≤ (pf45 11).toInt from by omega), (show (pf45 11).toInt < (tf 6).toInt from by omega), (show (pf 13).toInt ≤ (pf45 13).toInt from by omega), (show (pf45 13).toInt - (pf 13).toInt ≤ (pf45 11).toInt - (pf 11).toInt from by omega), (show bp ta (pf 11) + 1 ≤ bp ta (pf45 11) from by omega), (show (pf45 12).toInt = 0 from by omega), (show (pf45 26).toInt = 0 from by omega), (show -1 ≤ (pf45 25).toInt from by omega), (show (pf45 25).toInt < (pf45 13).toInt from by omega), (show RzG ta (tf 6).toInt na46 ma42 (pf45 24) (pf45 25) 0 (pf45 13).toInt (3 * bp ta (pf45 11)) 200 from (RzV.le (rz_eq (Or.inr hzg) (by omega) (by omega)) (by omega) (by omega) (by omega) (by omega)))⟩) d_Mpg_functionText_117
  have J65 : ∀ (n_65 : Nat) (pf_65 : Nat → Int32) (na_65 : Nat → Nat → Int32) (ma_65 : Nat → Nat → Int32) (wa_65 : Nat → Nat → Int32) (x65_3 x65_4 : Int32) (H : Heap) (locs : List Loc) (ls : Array Slot), ((pf_65 12).toInt = 1) → ((pf_65 26).toInt = 0) → ((pf_65 24).toInt = (pf 24).toInt) → ((pf_65 25).toInt = (pf 25).toInt) → ((pf 11).toInt + 1 ≤ (pf_65 11).toInt) → ((pf_65 11).toInt < (tf 6).toInt) → (x65_3.toInt = (pf 13).toInt) → (x65_3.toInt < (pf_65 13).toInt) → ((pf_65 13).toInt - (pf 13).toInt ≤ (pf_65 11).toInt - (pf 11).toInt + 1) → (bp ta (pf 11) + 1 ≤ bp ta (pf_65 11)) → (FrB 0 na ma na_65 ma_65) → (FrW (pf 26).toInt wa wa_65) → (NdF (tf 6).toInt na_65 x65_3 41 p1) → (FlN ma_65 22 x65_3 p0) → (RzG ta (tf 6).toInt na_65 ma_65 (pf 24) (pf 25) 0 (pf 13).toInt (3 * bp ta (pf 11) - 12) 200) → (x65_3.toInt + 1 ≤ x65_4.toInt) → (RfP ta (tf 6).toInt na_65 ma_65 (na_65 17) x65_3 x65_4 (x65_3.toInt + 1) (pf_65 13).toInt (3 * (bp ta (pf_65 11) - bp ta (pf 11)) - 3) 200) → (tf 6).toInt - (pf_65 11).toInt < (n_65 : Int) → pw D A s.heap H locs [wdP cs h r g tf ta pf_65 na_65 ma_65 wa_65 cf ca ef ea xf xa] → lv_has ls 6 [(0, .ref h), (1, .int p0), (2, .int p1), (3, .int x65_3), (4, .int x65_4)] → W p l e { frames := (8 * 61 + 30), cells := 1, slots := 6, locals := (220 * 61 + 1360) } s m [.ref h, .int p0, .int p1].toArray below meth c H locs 0 0 (tx_MQ below (thQv D (va_A ([wdP cs h r g tf ta pf na ma wa cf ca ef ea xf xa] : List va_W).flatten s.heap.size) "java/lang/IllegalArgumentException" (fun ps => ∃ (pf' : Nat → Int32) (na' : Nat → Nat → Int32) (ma' : Nat → Nat → Int32) (wa' : Nat → Nat → Int32), (ps = [wdP cs h r g tf ta pf' na' ma' wa' cf ca ef ea xf xa]) ∧ ((pf 11).toInt + 1 ≤ (pf' 11).toInt) ∧ ((pf' 11).toInt < (tf 6).toInt) ∧ ((pf 13).toInt ≤ (pf' 13).toInt) ∧ ((pf' 13).toInt - (pf 13).toInt ≤ (pf' 11).toInt - (pf 11).toInt) ∧ (bp ta (pf 11) + 1 ≤ bp ta (pf' 11)) ∧ ((pf' 12).toInt = 0) ∧ ((pf' 26).toInt = 0) ∧ (-1 ≤ (pf' 25).toInt) ∧ ((pf' 25).toInt < (pf' 13).toInt) ∧ (RzG ta (tf 6).toInt na' ma' (pf' 24) (pf' 25) 0 (pf' 13).toInt (3 * bp ta (pf' 11)) 200)) (fun ps => ∃ (pf' : Nat → Int32) (na' : Nat → Nat → Int32) (ma' : Nat → Nat → Int32) (wa' : Nat → Nat → Int32), ps = [wdP cs h r g tf ta pf' na' ma' wa' cf ca ef ea xf xa] ∧ 0 ≤ (pf' 11).toInt ∧ (pf' 11).toInt + 1 ≤ (tf 6).toInt) s.heap.size (tot s.heap)) [.ref h, .int p0, .int p1].toArray s 1 6 A) (F0 m 65 ls []) := by
    intro  n_65
    induction n_65 with
    | zero =>
      intro pf_65 na_65 ma_65 wa_65 x65_3 x65_4 H locs ls k65_0 k65_1 k65_2 k65_3 k65_4 k65_5 k65_6 k65_7 k65_8 k65_9 k65_10 k65_11 k65_12 k65_13 k65_14 k65_15 k65_16 hm hw hl
      have lx65_3 := Int32.le_toInt x65_3
      have ux65_3 := Int32.toInt_lt x65_3
      have lx65_4 := Int32.le_toInt x65_4
      have ux65_4 := Int32.toInt_lt x65_4
      have hfb := k65_10
      have hfw := k65_11
      have hf_14_x65_3 := k65_12.2.1
      have hf_15_x65_3 := k65_12.2.2.1
      have hf_21_x65_3 := k65_12.2.2.2.2
      have hnt_x65_3 := k65_12.2.2.2.1
      have hf_22_x65_3 : ma_65 22 x65_3.toNatClampNeg = p0 := k65_13
      have hzg := k65_14
      obtain ⟨b56, hf_17_x65_3, hrw_x65_4⟩ := k65_16
      have hn_hrw_x65_4 := hrw_x65_4.num
      exact absurd hm (by omega)
    | succ n_65 ih65 =>
      intro pf_65 na_65 ma_65 wa_65 x65_3 x65_4 H locs ls k65_0 k65_1 k65_2 k65_3 k65_4 k65_5 k65_6 k65_7 k65_8 k65_9 k65_10 k65_11 k65_12 k65_13 k65_14 k65_15 k65_16 hm hw hl
      have lx65_3 := Int32.le_toInt x65_3
      have ux65_3 := Int32.toInt_lt x65_3
      have lx65_4 := Int32.le_toInt x65_4
      have ux65_4 := Int32.toInt_lt x65_4
      have hfb := k65_10
      have hfw := k65_11
      have hf_14_x65_3 := k65_12.2.1
      have hf_15_x65_3 := k65_12.2.2.1
      have hf_21_x65_3 := k65_12.2.2.2.2
      have hnt_x65_3 := k65_12.2.2.2.1
      have hf_22_x65_3 : ma_65 22 x65_3.toNatClampNeg = p0 := k65_13
      have hzg := k65_14
      obtain ⟨b57, hf_17_x65_3, hrw_x65_4⟩ := k65_16
      have hn_hrw_x65_4 := hrw_x65_4.num
      refine lv_aload_n S.x S.b d_Mpg_functionText_65 rfl (lv_at hl 0 rfl) ?_
      obtain ⟨sk58, hRsk58, st59, sb60, hSsk58⟩ := oP_lit hP (k := 99) (tx := ",") (n := 1) (List.mem_of_getElem? (i := 41) rfl)
      refine va_ldcS S.x S.b S.own hRsk58 d_Mpg_functionText_66 ?_
      refine px_calli (pr := []) (px_runV (As := [.ref sk58]) (rest := []) S (c_mp_takes l D cs sk58 1 h r g tf ta na_65 ma_65 wa_65 cf ca ef ea xf xa pf_65   (show 0 ≤ (pf_65 11).toInt from by omega) (show (pf_65 11).toInt < (tf 6).toInt from by omega) (show (tf 6).toInt ≤ 2049 from by omega) (show 1 ≤ 100 from by omega) htk _) hT (pr := []) (pcs := [wdP cs h r g tf ta pf_65 na_65 ma_65 wa_65 cf ca ef ea xf xa]) hw (oX_call (P := (fun A U H => (oP A g U H) ∧ (StS A sk58 1 U H))) (pr := []) (oG_and oG_P oG_Q) hw hA ⟨hP, ⟨_, _, hSsk58⟩⟩) (px_recv hT hw 0 0 rfl rfl rfl) m12_6 m12_3 m12_5 ms_9_3 m1_21 q_Mpg_takes ⟨show 4 + 1 ≤ (8 * 61 + 30) from by omega, show 8 + (3 + 11) + 160 ≤ (220 * 61 + 1360) from by omega⟩ hl.1 rfl (Nat.le_of_ble_eq_true rfl) d_Mpg_functionText_68 ⟨Nat.le_of_ble_eq_true rfl, Nat.le_of_ble_eq_true rfl⟩) hw hA (fun v64 p63 H locs hp63 hw => ?_)
      obtain ⟨pf62, rfl, e65, e66, e67, e68, e69, e70, e71, e72, e73⟩ := hp63
      have e65 := z_rng e65
      have e66 : (pf62 11).toInt = (pf_65 11).toInt + v64.toInt := e66
      have e67 : (pf62 11).toInt < (tf 6).toInt := e67
      have e68 : bp ta (pf_65 11) + v64.toInt ≤ bp ta (pf62 11) := e68
      have e69 : (pf62 12).toInt = (pf_65 12).toInt := e69
      have e70 : (pf62 13).toInt = (pf_65 13).toInt := e70
      have e71 : (pf62 24).toInt = (pf_65 24).toInt := e71
      have e72 : (pf62 25).toInt = (pf_65 25).toInt := e72
      have e73 : (pf62 26).toInt = (pf_65 26).toInt := e73
      have hw : pw D A s.heap H locs [wdP cs h r g tf ta pf62 na_65 ma_65 wa_65 cf ca ef ea xf xa] := hw
      have lv64 := Int32.le_toInt v64
      have uv64 := Int32.toInt_lt v64
      refine lv_if_eq (tgt := 96) S.x S.b d_Mpg_functionText_71 (by decide) (fun c74 => ?_) (fun c74 => ?_)
      · have nc74 : v64.toInt = (0 : Int) := (i_eq (x := v64) (y := 0)).mp c74
        exact J96 pf62 na_65 ma_65 wa_65 x65_3 _ _ ls (show (pf62 12).toInt = 1 from by omega) (show (pf62 26).toInt = 0 from by omega) (show (pf62 24).toInt = (pf 24).toInt from by omega) (show (pf62 25).toInt = (pf 25).toInt from by omega) (show (pf 11).toInt + 1 ≤ (pf62 11).toInt from by omega) (show (pf62 11).toInt < (tf 6).toInt from by omega) (show x65_3.toInt = (pf 13).toInt from by omega) (show x65_3.toInt < (pf62 13).toInt from by omega) (show (pf62 13).toInt - (pf 13).toInt ≤ (pf62 11).toInt - (pf 11).toInt + 1 from by omega) (show bp ta (pf 11) + 1 ≤ bp ta (pf62 11) from by omega) (show FrB 0 na ma na_65 ma_65 from hfb) (show FrW (pf 26).toInt wa wa_65 from hfw) (show NdF (tf 6).toInt na_65 x65_3 41 p1 from ⟨by omega, hf_14_x65_3, hf_15_x65_3, ⟨by omega, by omega⟩, hf_21_x65_3⟩) (show FlN ma_65 22 x65_3 p0 from hf_22_x65_3) (show RzG ta (tf 6).toInt na_65 ma_65 (pf 24) (pf 25) 0 (pf 13).toInt (3 * bp ta (pf 11) - 12) 200 from (RzV.le (rz_eq hzg (by omega) (by omega)) (by omega) (by omega) (by omega) (by omega))) (show LfP ta (tf 6).toInt na_65 ma_65 (na_65 17) x65_3 (x65_3.toInt + 1) (pf62 13).toInt (3 * (bp ta (pf62 11) - bp ta (pf 11)) - 3) 200 from ⟨_, _, hf_17_x65_3, Or.inr (RwV.le hrw_x65_4 (by omega) (by omega) (by omega) (by omega))⟩) hw (lv_sub hl [0, 1, 2, 3] rfl)
      · have nc74 : ¬ v64.toInt = (0 : Int) := mt (i_eq (x := v64) (y := 0)).mpr c74
        refine lv_aload_n S.x S.b d_Mpg_functionText_74 rfl (lv_at hl 0 rfl) ?_
        refine th_calli (ps0 := [wdP cs h r g tf ta pf na ma wa cf ca ef ea xf xa]) (pr := []) (pcs := [wdP cs h r g tf ta pf62 na_65 ma_65 wa_65 cf ca ef ea xf xa]) (As := []) (rest := []) (c_mp_parameter l D cs h r g tf ta cf ca ef ea xf xa pf62 na_65 ma_65 wa_65  lv (show 0 ≤ (pf62 11).toInt from by omega) (show (pf62 11).toInt < (tf 6).toInt from by omega) (show (tf 6).toInt ≤ 2049 from by omega) (show 0 ≤ (pf62 12).toInt from by omega) (show (pf62 12).toInt ≤ 60 from by omega) (show 0 ≤ (pf62 13).toInt from by omega) (show (pf62 13).toInt ≤ (pf62 11).toInt + 10 from by omega) (show 0 ≤ (pf62 26).toInt from by omega) (show (pf62 26).toInt ≤ (pf62 12).toInt from by omega) (show 61 ≤ (pf62 12).toInt + (lv : Int) from by omega) (show lv ≤ 61 from by omega) hlf htk) S hT hw (oX_call (P := (fun A U H => (oN A U H) ∧ (oP A g U H))) (pr := []) (oG_and oG_N oG_P) hw hA ⟨hN, hP⟩) (px_recv hT hw 0 0 rfl rfl rfl) m12_93 m12_90 m12_92 ms_10_8 m1_21 q_Mpg_parameter ⟨show (8 * lv + 24) + 1 ≤ (8 * 61 + 30) from by omega, show 8 + (3 + 11) + (220 * lv + 1120) ≤ (220 * 61 + 1360) from by omega⟩ hl.1 rfl (Nat.le_of_ble_eq_true rfl) d_Mpg_functionText_75 ⟨Nat.le_of_ble_eq_true rfl, Nat.le_of_ble_eq_true rfl⟩ hne hlk hA hAe (fun o t h => Or.inr h) ?_ (fun v84 p83 H locs hp83 hw => ?_)
        · exact fun p1 H1 locs1 hp hw => by obtain ⟨pq1, pq2, pq3, pq4, rfl, hq1, hq2⟩ := hp; exact ⟨_, ⟨pq1, pq2, pq3, pq4, rfl, hq1, hq2⟩, hw⟩
        obtain ⟨pf79, na80, ma81, wa82, rfl, e85, e86, e87, e88, e89, e90, e91, e92, e93, e94, e95, e96, e97⟩ := hp83
        have e85 : (pf62 11).toInt + 1 ≤ (pf79 11).toInt := e85
        have e86 : (pf79 11).toInt < (tf 6).toInt := e86
        have e87 : (pf62 13).toInt + 1 ≤ (pf79 13).toInt := e87
        have e88 : (pf79 13).toInt - (pf62 13).toInt ≤ (pf79 11).toInt - (pf62 11).toInt := e88
        have e89 : bp ta (pf62 11) + 1 ≤ bp ta (pf79 11) := e89
        have e90 : (pf79 12).toInt = (pf62 12).toInt := e90
        have e91 : (pf79 24).toInt = (pf62 24).toInt := e91
        have e92 : (pf79 25).toInt = (pf62 25).toInt := e92
        have e93 : (pf79 26).toInt = (pf62 26).toInt := e93
        have e94 : bp ta (pf62 11) + 2 ≤ bp ta (pf79 11) := e94
        have e95 : FrB (pf62 13).toInt na_65 ma_65 na80 ma81 := e95
        have hf_14_x65_3 := (fb_n e95 (by omega) (by omega)).trans hf_14_x65_3
        have hf_15_x65_3 := (fb_n e95 (by omega) (by omega)).trans hf_15_x65_3
        have hf_21_x65_3 := (fb_n e95 (by omega) (by omega)).trans hf_21_x65_3
        have hf_22_x65_3 := (fb_m e95 (by omega) (by omega)).trans hf_22_x65_3
        have hf_17_x65_3 := (fb_n e95 (by omega) (by omega)).trans hf_17_x65_3
        have hrw_x65_4 := hrw_x65_4.ag fp_ok (FrB.ag e95 (by omega))
        have hzg := hzg.ag fg_ok (FrB.ag e95 (by omega))
        have hfb := hfb.tr e95 (by omega)
        have e96 : FrW (pf62 26).toInt wa_65 wa82 := e96
        have hfw := hfw.tr e96 (by omega)
        have e97 : VlP ta (tf 6).toInt na80 ma81 v84 (pf62 13).toInt (pf79 13).toInt (3 * (bp ta (pf79 11) - bp ta (pf62 11))) 130 := e97
        have hv_v84 := e97
        have hn_hv_v84 := hv_v84.num fp_ok
        have hw : pw D A s.heap H locs [wdP cs h r g tf ta pf79 na80 ma81 wa82 cf ca ef ea xf xa] := hw
        have lv84 := Int32.le_toInt v84
        have uv84 := Int32.toInt_lt v84
        refine lv_istore (lv' := [(5, .int v84), (0, .ref h), (1, .int p0), (2, .int p1), (3, .int x65_3), (4, .int x65_4)]) S.x S.b d_Mpg_functionText_78 hl (by decide) rfl (fun ls hl => ?_)
        refine lv_aload_n S.x S.b d_Mpg_functionText_80 rfl (lv_at hl 1 rfl) ?_
        refine px_get S k_Mpg hT hw 0 0 21 (v := .ref (r 21)) rfl rfl rfl (by decide) m10_7 d_Mpg_functionText_81 ?_
        refine lv_iload S.x S.b d_Mpg_functionText_84 (lv_at hl 5 rfl) ?_
        refine lv_iload S.x S.b d_Mpg_functionText_86 (lv_at hl 0 rfl) ?_
        refine px_iast S hT hw 0 17 (n := 2100) (f := (na80 21)) (x := x65_4) (y := v84) rfl gp_21 (vp_in_iff.mpr (by constructor <;> omega)) d_Mpg_functionText_88 (w' := wdP cs h r g tf ta pf79 (va_up na80 21 (upd (na80 21) x65_4.toNatClampNeg v84)) ma81 wa82 cf ca ef ea xf xa) (ps' := [wdP cs h r g tf ta pf79 (va_up na80 21 (upd (na80 21) x65_4.toNatClampNeg v84)) ma81 wa82 cf ca ef ea xf xa]) sp_21 rfl (fun H locs hw => ?_)
        obtain ⟨na98, hu_na98⟩ : ∃ y : Nat → Nat → Int32, y = va_up na80 21 (upd (na80 21) x65_4.toNatClampNeg v84) := ⟨_, rfl⟩
        have hw : pw D A s.heap _ _ [wdP cs h r g tf ta pf79 na98 ma81 wa82 cf ca ef ea xf xa] := (by rw [hu_na98]; exact hw)
        have hrw_v84 := row_s hrw_x65_4 (VlV.le hv_v84 (by omega) (Int.le_refl _) (Int.le_refl _) (by omega)) fp_ok (by omega) hu_na98
        have hn_hrw_v84 := hrw_v84.num
        have hf_14_x65_3 := (fl_n hu_na98 (by decide)).trans hf_14_x65_3
        have hf_15_x65_3 := (fl_n hu_na98 (by decide)).trans hf_15_x65_3
        have hf_21_x65_3 := (fl_f hu_na98 (by omega) (by omega) (by omega)).trans hf_21_x65_3
        have hf_17_x65_3 := (fl_n hu_na98 (by decide)).trans hf_17_x65_3
        have hf_21_x65_4 : na98 21 x65_4.toNatClampNeg = v84 := (by rw [hu_na98, va_up_s, pk_us])
        have hfb : FrB 0 na ma na98 ma81 := (by rw [hu_na98]; exact FrB.un hfb (by omega) (by omega))
        have hzg := hzg.ag fg_ok (ag_n hu_na98 (by omega) (by omega))
        refine lv_iload S.x S.b d_Mpg_functionText_89 (lv_at hl 0 rfl) ?_
        refine lv_istore (lv' := [(4, .int v84), (5, .int v84), (0, .ref h), (1, .int p0), (2, .int p1), (3, .int x65_3)]) S.x S.b d_Mpg_functionText_91 hl (by decide) rfl (fun ls hl => ?_)
        refine lv_goto (tgt := 65) S.x S.b d_Mpg_functionText_93 (by decide) ?_
        exact ih65 pf79 na98 ma81 wa82 x65_3 v84 _ _ ls (show (pf79 12).toInt = 1 from by omega) (show (pf79 26).toInt = 0 from by omega) (show (pf79 24).toInt = (pf 24).toInt from by omega) (show (pf79 25).toInt = (pf 25).toInt from by omega) (show (pf 11).toInt + 1 ≤ (pf79 11).toInt from by omega) (show (pf79 11).toInt < (tf 6).toInt from by omega) (show x65_3.toInt = (pf 13).toInt from by omega) (show x65_3.toInt < (pf79 13).toInt from by omega) (show (pf79 13).toInt - (pf 13).toInt ≤ (pf79 11).toInt - (pf 11).toInt + 1 from by omega) (show bp ta (pf 11) + 1 ≤ bp ta (pf79 11) from by omega) (show FrB 0 na ma na98 ma81 from hfb) (show FrW (pf 26).toInt wa wa82 from hfw) (show NdF (tf 6).toInt na98 x65_3 41 p1 from ⟨by omega, hf_14_x65_3, hf_15_x65_3, ⟨by omega, by omega⟩, hf_21_x65_3⟩) (show FlN ma81 22 x65_3 p0 from hf_22_x65_3) (show RzG ta (tf 6).toInt na98 ma81 (pf 24) (pf 25) 0 (pf 13).toInt (3 * bp ta (pf 11) - 12) 200 from (RzV.le (rz_eq hzg (by omega) (by omega)) (by omega) (by omega) (by omega) (by omega))) (show x65_3.toInt + 1 ≤ v84.toInt from by omega) (show RfP ta (tf 6).toInt na98 ma81 (na98 17) x65_3 v84 (x65_3.toInt + 1) (pf79 13).toInt (3 * (bp ta (pf79 11) - bp ta (pf 11)) - 3) 200 from ⟨_, hf_17_x65_3, (RwV.le hrw_v84 (by omega) (by omega) (by omega) (by omega))⟩) (show (tf 6).toInt - (pf79 11).toInt < (n_65 : Int) from by omega) hw (lv_sub hl [2, 3, 4, 5, 0] rfl)
  refine lv_aload_n S.x S.b d_Mpg_functionText_0 rfl (lv_at hl 0 rfl) ?_
  refine lv_bipush (v := 41) S.x S.b d_Mpg_functionText_1 (by decide) ?_
  refine lv_iload_n S.x S.b d_Mpg_functionText_3 rfl (lv_at hl 2 rfl) ?_
  refine px_calli (pr := []) (px_runV (As := [.int 41, .int p1]) (rest := []) S (c_mp_make l D cs h r g tf ta wa cf ca ef ea xf xa pf na ma 41 p1  (show 0 ≤ (pf 13).toInt from by omega) (show (pf 13).toInt < 2100 from by omega) _) hT (pr := []) (pcs := [wdP cs h r g tf ta pf na ma wa cf ca ef ea xf xa]) hw px_X.tt (px_recv hT hw 0 0 rfl rfl rfl) m11_209 m11_206 m11_208 ms_8_12 m1_21 q_Mpg_make ⟨show 0 + 1 ≤ (8 * 61 + 30) from by omega, show 8 + (3 + 11) + 0 ≤ (220 * 61 + 1360) from by omega⟩ hl.1 rfl (Nat.le_of_ble_eq_true rfl) d_Mpg_functionText_4 ⟨Nat.le_of_ble_eq_true rfl, Nat.le_of_ble_eq_true rfl⟩) hw hA (fun v106 p105 H locs hp105 hw => ?_)
  obtain ⟨pf102, na103, ma104, rfl, e107, e108, e109, e110, e111, e112, e113, e114⟩ := hp105
  have e107 : v106.toInt = (pf 13).toInt := e107
  have e108 : (pf102 13).toInt = (pf 13).toInt + 1 := e108
  have e109 : (pf102 11).toInt = (pf 11).toInt := e109
  have e110 : (pf102 12).toInt = (pf 12).toInt := e110
  have e111 : (pf102 24).toInt = (pf 24).toInt := e111
  have e112 : (pf102 25).toInt = (pf 25).toInt := e112
  have e113 : (pf102 26).toInt = (pf 26).toInt := e113
  have e114 : MkN na ma na103 ma104 v106 (41 : Int32) p1 := e114
  obtain ⟨qb1151, qb1152, qb1153, qb1154⟩ := tk_eq (ta := ta) (x := (pf102 11)) (y := (pf 11)) (by omega)
  have hmk_v106 := e114
  have hfm_v106 := MkN.frb (b := v106.toInt) hmk_v106 (by omega) (by omega)
  have hzg := hzg.ag fg_ok (FrB.ag hfm_v106 (by omega))
  have hfb := hfb.tr hfm_v106 (by omega)
  have hf_14_v106 := hmk_v106.2.1 (by decide) (by decide)
  have hf_15_v106 := hmk_v106.2.2.1
  have hf_17_v106 := hmk_v106.2.2.2.2.1
  have hf_21_v106 := hmk_v106.2.2.2.2.2.2.2.2.1
  clear hmk_v106 hfm_v106
  have hw : pw D A s.heap H locs [wdP cs h r g tf ta pf102 na103 ma104 wa cf ca ef ea xf xa] := hw
  have lv106 := Int32.le_toInt v106
  have uv106 := Int32.toInt_lt v106
  refine lv_istore_n (lv' := [(3, .int v106), (0, .ref h), (1, .int p0), (2, .int p1)]) S.x S.b d_Mpg_functionText_7 rfl hl (by decide) rfl (fun ls hl => ?_)
  refine lv_aload_n S.x S.b d_Mpg_functionText_8 rfl (lv_at hl 1 rfl) ?_
  refine px_get S k_Mpg hT hw 0 0 22 (v := .ref (r 22)) rfl rfl rfl (by decide) m10_9 d_Mpg_functionText_9 ?_
  refine lv_iload_n S.x S.b d_Mpg_functionText_12 rfl (lv_at hl 0 rfl) ?_
  refine lv_iload_n S.x S.b d_Mpg_functionText_13 rfl (lv_at hl 2 rfl) ?_
  refine px_iast S hT hw 0 18 (n := 2100) (f := (ma104 22)) (x := v106) (y := p0) rfl gp_22 (vp_in_iff.mpr (by constructor <;> omega)) d_Mpg_functionText_14 (w' := wdP cs h r g tf ta pf102 na103 (va_up ma104 22 (upd (ma104 22) v106.toNatClampNeg p0)) wa cf ca ef ea xf xa) (ps' := [wdP cs h r g tf ta pf102 na103 (va_up ma104 22 (upd (ma104 22) v106.toNatClampNeg p0)) wa cf ca ef ea xf xa]) sp_22 rfl (fun H locs hw => ?_)
  obtain ⟨ma116, hu_ma116⟩ : ∃ y : Nat → Nat → Int32, y = va_up ma104 22 (upd (ma104 22) v106.toNatClampNeg p0) := ⟨_, rfl⟩
  have hw : pw D A s.heap _ _ [wdP cs h r g tf ta pf102 na103 ma116 wa cf ca ef ea xf xa] := (by rw [hu_ma116]; exact hw)
  have hf_22_v106 : ma116 22 v106.toNatClampNeg = p0 := (by rw [hu_ma116, va_up_s, pk_us])
  have hfb : FrB 0 na ma na103 ma116 := (by rw [hu_ma116]; exact FrB.um hfb (by omega) (by omega))
  have hzg := hzg.ag fg_ok (ag_m hu_ma116 (by omega) (by omega))
  refine lv_aload_n S.x S.b d_Mpg_functionText_15 rfl (lv_at hl 1 rfl) ?_
  obtain ⟨sk117, hRsk117, st118, sb119, hSsk117⟩ := oP_lit hP (k := 87) (tx := "(") (n := 1) (List.mem_of_getElem? (i := 35) rfl)
  refine va_ldcS S.x S.b S.own hRsk117 d_Mpg_functionText_16 ?_
  refine th_callv (ps0 := [wdP cs h r g tf ta pf na ma wa cf ca ef ea xf xa]) (pr := []) (pcs := [wdP cs h r g tf ta pf102 na103 ma116 wa cf ca ef ea xf xa]) (As := [.ref sk117]) (rest := []) (c_mp_opensMark l D cs sk117 1 h r g tf ta na103 ma116 wa cf ca ef ea xf xa pf102   (show 0 ≤ (pf102 11).toInt from by omega) (show (pf102 11).toInt < (tf 6).toInt from by omega) (show (tf 6).toInt ≤ 2049 from by omega) (show 0 ≤ (pf102 12).toInt from by omega) (show (pf102 12).toInt ≤ 60 from by omega) (show 1 ≤ 100 from by omega) hlf htk) S hT hw (oX_call (P := (fun A U H => (oN A U H) ∧ (oP A g U H) ∧ (StS A sk117 1 U H))) (pr := []) (oG_and oG_N (oG_and oG_P oG_Q)) hw hA ⟨hN, hP, ⟨_, _, hSsk117⟩⟩) (px_recv hT hw 0 0 rfl rfl rfl) m11_213 m11_210 m11_212 ms_8_13 m1_21 q_Mpg_opensMark ⟨show 8 + 1 ≤ (8 * 61 + 30) from by omega, show 8 + (2 + 11) + 240 ≤ (220 * 61 + 1360) from by omega⟩ hl.1 rfl (Nat.le_of_ble_eq_true rfl) d_Mpg_functionText_18 ⟨Nat.le_of_ble_eq_true rfl, Nat.le_of_ble_eq_true rfl⟩ hne hlk hA hAe (fun o t h => Or.inr h) ?_ (fun p122 H locs hp122 hw => ?_)
  · exact fun p1 H1 locs1 hp hw => by obtain ⟨pq1, pq2, pq3, pq4, rfl, hq1, hq2⟩ := hp; exact ⟨_, ⟨pq1, pq2, pq3, pq4, rfl, hq1, hq2⟩, hw⟩
  obtain ⟨pf121, rfl, e124, e125, e126, e127, e128, e129, e130, e131, e132, e133⟩ := hp122
  have e124 : (pf121 11).toInt = (pf102 11).toInt + 1 := e124
  have e125 : (pf121 11).toInt < (tf 6).toInt := e125
  have e126 : bp ta (pf102 11) + sz ta (pf102 11) ≤ bp ta (pf121 11) := e126
  have e127 : 1 ≤ sz ta (pf102 11) := e127
  have e128 : (pf121 12).toInt = (pf102 12).toInt + 1 := e128
  have e129 : (pf102 12).toInt < 60 := e129
  have e130 : (pf121 13).toInt = (pf102 13).toInt := e130
  have e131 : (pf121 24).toInt = (pf102 24).toInt := e131
  have e132 : (pf121 25).toInt = (pf102 25).toInt := e132
  have e133 : (pf121 26).toInt = (pf102 26).toInt := e133
  have hw : pw D A s.heap H locs [wdP cs h r g tf ta pf121 na103 ma116 wa cf ca ef ea xf xa] := hw
  refine lv_aload_n S.x S.b d_Mpg_functionText_21 rfl (lv_at hl 1 rfl) ?_
  refine lv_iconst (v := 2) S.x S.b d_Mpg_functionText_22 (by decide) ?_
  refine px_calli (pr := []) (px_runV (As := [.int 2]) (rest := []) S (c_mp_isKey l D cs h r g tf ta pf121 na103 ma116 wa cf ca ef ea xf xa 2  (show 0 ≤ (pf121 11).toInt from by omega) (show (pf121 11).toInt < (tf 6).toInt from by omega) (show (tf 6).toInt ≤ 2049 from by omega) htk _) hT (pr := []) (pcs := [wdP cs h r g tf ta pf121 na103 ma116 wa cf ca ef ea xf xa]) hw px_X.tt (px_recv hT hw 0 0 rfl rfl rfl) m11_201 m11_198 m11_200 ms_8_10 m1_21 q_Mpg_isKey ⟨show 0 + 1 ≤ (8 * 61 + 30) from by omega, show 8 + (2 + 11) + 0 ≤ (220 * 61 + 1360) from by omega⟩ hl.1 rfl (Nat.le_of_ble_eq_true rfl) d_Mpg_functionText_23 ⟨Nat.le_of_ble_eq_true rfl, Nat.le_of_ble_eq_true rfl⟩) hw hA (fun v135 p134 H locs hp134 hw => ?_)
  obtain ⟨rfl, e136, e137⟩ := hp134
  have e136 := z_rng e136
  have e137 : v135.toInt = 1 → (pf121 11).toInt + 1 < (tf 6).toInt ∧ so ta (pf121 11) = 2 ∧ wh ta (pf121 11) = (2 : Int) := e137
  have hw : pw D A s.heap H locs [wdP cs h r g tf ta pf121 na103 ma116 wa cf ca ef ea xf xa] := hw
  have lv135 := Int32.le_toInt v135
  have uv135 := Int32.toInt_lt v135
  refine lv_if_eq (tgt := 42) S.x S.b d_Mpg_functionText_26 (by decide) (fun c138 => ?_) (fun c138 => ?_)
  · have nc138 : v135.toInt = (0 : Int) := (i_eq (x := v135) (y := 0)).mp c138
    refine lv_aload_n S.x S.b d_Mpg_functionText_42 rfl (lv_at hl 1 rfl) ?_
    obtain ⟨sk139, hRsk139, st140, sb141, hSsk139⟩ := oP_lit hP (k := 89) (tx := ")") (n := 1) (List.mem_of_getElem? (i := 36) rfl)
    refine va_ldcS S.x S.b S.own hRsk139 d_Mpg_functionText_43 ?_
    refine px_calli (pr := []) (px_runV (As := [.ref sk139]) (rest := []) S (c_mp_is l D cs sk139 1 h r g tf ta pf121 na103 ma116 wa cf ca ef ea xf xa   (show 0 ≤ (pf121 11).toInt from by omega) (show (pf121 11).toInt < (tf 6).toInt from by omega) (show (tf 6).toInt ≤ 2049 from by omega) (show 1 ≤ 100 from by omega) htk _) hT (pr := []) (pcs := [wdP cs h r g tf ta pf121 na103 ma116 wa cf ca ef ea xf xa]) hw (oX_call (P := (fun A U H => (oP A g U H) ∧ (StS A sk139 1 U H))) (pr := []) (oG_and oG_P oG_Q) hw hA ⟨hP, ⟨_, _, hSsk139⟩⟩) (px_recv hT hw 0 0 rfl rfl rfl) m11_217 m11_214 m11_216 ms_8_14 m1_21 q_Mpg_is ⟨show 3 + 1 ≤ (8 * 61 + 30) from by omega, show 8 + (2 + 11) + 120 ≤ (220 * 61 + 1360) from by omega⟩ hl.1 rfl (Nat.le_of_ble_eq_true rfl) d_Mpg_functionText_45 ⟨Nat.le_of_ble_eq_true rfl, Nat.le_of_ble_eq_true rfl⟩) hw hA (fun v143 p142 H locs hp142 hw => ?_)
    obtain ⟨rfl, e144, e145⟩ := hp142
    have e144 := z_rng e144
    have e145 : v143.toInt = 1 → (pf121 11).toInt + 1 < (tf 6).toInt ∧ so ta (pf121 11) = 5 := e145
    have hw : pw D A s.heap H locs [wdP cs h r g tf ta pf121 na103 ma116 wa cf ca ef ea xf xa] := hw
    have lv143 := Int32.le_toInt v143
    have uv143 := Int32.toInt_lt v143
    refine lv_if_ne (tgt := 96) S.x S.b d_Mpg_functionText_48 (by decide) (fun c146 => ?_) (fun c146 => ?_)
    · have nc146 : ¬ v143.toInt = (0 : Int) := mt (i_eq (x := v143) (y := 0)).mpr c146
      exact J96 pf121 na103 ma116 wa v106 _ _ ls (show (pf121 12).toInt = 1 from by omega) (show (pf121 26).toInt = 0 from by omega) (show (pf121 24).toInt = (pf 24).toInt from by omega) (show (pf121 25).toInt = (pf 25).toInt from by omega) (show (pf 11).toInt + 1 ≤ (pf121 11).toInt from by omega) (show (pf121 11).toInt < (tf 6).toInt from by omega) (show v106.toInt = (pf 13).toInt from by omega) (show v106.toInt < (pf121 13).toInt from by omega) (show (pf121 13).toInt - (pf 13).toInt ≤ (pf121 11).toInt - (pf 11).toInt + 1 from by omega) (show bp ta (pf 11) + 1 ≤ bp ta (pf121 11) from by omega) (show FrB 0 na ma na103 ma116 from hfb) (show FrW (pf 26).toInt wa wa from hfw) (show NdF (tf 6).toInt na103 v106 41 p1 from ⟨by omega, hf_14_v106, hf_15_v106, ⟨by omega, by omega⟩, hf_21_v106⟩) (show FlN ma116 22 v106 p0 from hf_22_v106) (show RzG ta (tf 6).toInt na103 ma116 (pf 24) (pf 25) 0 (pf 13).toInt (3 * bp ta (pf 11) - 12) 200 from (RzV.le (rz_eq hzg (by omega) (by omega)) (by omega) (by omega) (by omega) (by omega))) (show LfP ta (tf 6).toInt na103 ma116 (na103 17) v106 (v106.toInt + 1) (pf121 13).toInt (3 * (bp ta (pf121 11) - bp ta (pf 11)) - 3) 200 from ⟨-1, _, hf_17_v106, Or.inl ⟨by decide, by decide, by omega⟩⟩) hw (lv_sub hl [1, 2, 3, 0] rfl)
    · have nc146 : v143.toInt = (0 : Int) := (i_eq (x := v143) (y := 0)).mp c146
      refine lv_aload_n S.x S.b d_Mpg_functionText_51 rfl (lv_at hl 1 rfl) ?_
      refine th_calli (ps0 := [wdP cs h r g tf ta pf na ma wa cf ca ef ea xf xa]) (pr := []) (pcs := [wdP cs h r g tf ta pf121 na103 ma116 wa cf ca ef ea xf xa]) (As := []) (rest := []) (c_mp_parameter l D cs h r g tf ta cf ca ef ea xf xa pf121 na103 ma116 wa  lv (show 0 ≤ (pf121 11).toInt from by omega) (show (pf121 11).toInt < (tf 6).toInt from by omega) (show (tf 6).toInt ≤ 2049 from by omega) (show 0 ≤ (pf121 12).toInt from by omega) (show (pf121 12).toInt ≤ 60 from by omega) (show 0 ≤ (pf121 13).toInt from by omega) (show (pf121 13).toInt ≤ (pf121 11).toInt + 10 from by omega) (show 0 ≤ (pf121 26).toInt from by omega) (show (pf121 26).toInt ≤ (pf121 12).toInt from by omega) (show 61 ≤ (pf121 12).toInt + (lv : Int) from by omega) (show lv ≤ 61 from by omega) hlf htk) S hT hw (oX_call (P := (fun A U H => (oN A U H) ∧ (oP A g U H))) (pr := []) (oG_and oG_N oG_P) hw hA ⟨hN, hP⟩) (px_recv hT hw 0 0 rfl rfl rfl) m12_93 m12_90 m12_92 ms_10_8 m1_21 q_Mpg_parameter ⟨show (8 * lv + 24) + 1 ≤ (8 * 61 + 30) from by omega, show 8 + (3 + 11) + (220 * lv + 1120) ≤ (220 * 61 + 1360) from by omega⟩ hl.1 rfl (Nat.le_of_ble_eq_true rfl) d_Mpg_functionText_52 ⟨Nat.le_of_ble_eq_true rfl, Nat.le_of_ble_eq_true rfl⟩ hne hlk hA hAe (fun o t h => Or.inr h) ?_ (fun v156 p155 H locs hp155 hw => ?_)
      · exact fun p1 H1 locs1 hp hw => by obtain ⟨pq1, pq2, pq3, pq4, rfl, hq1, hq2⟩ := hp; exact ⟨_, ⟨pq1, pq2, pq3, pq4, rfl, hq1, hq2⟩, hw⟩
      obtain ⟨pf151, na152, ma153, wa154, rfl, e157, e158, e159, e160, e161, e162, e163, e164, e165, e166, e167, e168, e169⟩ := hp155
      have e157 : (pf121 11).toInt + 1 ≤ (pf151 11).toInt := e157
      have e158 : (pf151 11).toInt < (tf 6).toInt := e158
      have e159 : (pf121 13).toInt + 1 ≤ (pf151 13).toInt := e159
      have e160 : (pf151 13).toInt - (pf121 13).toInt ≤ (pf151 11).toInt - (pf121 11).toInt := e160
      have e161 : bp ta (pf121 11) + 1 ≤ bp ta (pf151 11) := e161
      have e162 : (pf151 12).toInt = (pf121 12).toInt := e162
      have e163 : (pf151 24).toInt = (pf121 24).toInt := e163
      have e164 : (pf151 25).toInt = (pf121 25).toInt := e164
      have e165 : (pf151 26).toInt = (pf121 26).toInt := e165
      have e166 : bp ta (pf121 11) + 2 ≤ bp ta (pf151 11) := e166
      have e167 : FrB (pf121 13).toInt na103 ma116 na152 ma153 := e167
      have hf_14_v106 := (fb_n e167 (by omega) (by omega)).trans hf_14_v106
      have hf_15_v106 := (fb_n e167 (by omega) (by omega)).trans hf_15_v106
      have hf_17_v106 := (fb_n e167 (by omega) (by omega)).trans hf_17_v106
      have hf_21_v106 := (fb_n e167 (by omega) (by omega)).trans hf_21_v106
      have hf_22_v106 := (fb_m e167 (by omega) (by omega)).trans hf_22_v106
      have hzg := hzg.ag fg_ok (FrB.ag e167 (by omega))
      have hfb := hfb.tr e167 (by omega)
      have e168 : FrW (pf121 26).toInt wa wa154 := e168
      have hfw := hfw.tr e168 (by omega)
      have e169 : VlP ta (tf 6).toInt na152 ma153 v156 (pf121 13).toInt (pf151 13).toInt (3 * (bp ta (pf151 11) - bp ta (pf121 11))) 130 := e169
      have hv_v156 := e169
      have hn_hv_v156 := hv_v156.num fp_ok
      have hw : pw D A s.heap H locs [wdP cs h r g tf ta pf151 na152 ma153 wa154 cf ca ef ea xf xa] := hw
      have lv156 := Int32.le_toInt v156
      have uv156 := Int32.toInt_lt v156
      refine lv_istore (lv' := [(4, .int v156), (3, .int v106), (0, .ref h), (1, .int p0), (2, .int p1)]) S.x S.b d_Mpg_functionText_55 hl (by decide) rfl (fun ls hl => ?_)
      refine lv_aload_n S.x S.b d_Mpg_functionText_57 rfl (lv_at hl 2 rfl) ?_
      refine px_get S k_Mpg hT hw 0 0 17 (v := .ref (r 17)) rfl rfl rfl (by decide) m10_1 d_Mpg_functionText_58 ?_
      refine lv_iload_n S.x S.b d_Mpg_functionText_61 rfl (lv_at hl 1 rfl) ?_
      refine lv_iload S.x S.b d_Mpg_functionText_62 (lv_at hl 0 rfl) ?_
      refine px_iast S hT hw 0 13 (n := 2100) (f := (na152 17)) (x := v106) (y := v156) rfl gp_17 (vp_in_iff.mpr (by constructor <;> omega)) d_Mpg_functionText_64 (w' := wdP cs h r g tf ta pf151 (va_up na152 17 (upd (na152 17) v106.toNatClampNeg v156)) ma153 wa154 cf ca ef ea xf xa) (ps' := [wdP cs h r g tf ta pf151 (va_up na152 17 (upd (na152 17) v106.toNatClampNeg v156)) ma153 wa154 cf ca ef ea xf xa]) sp_17 rfl (fun H locs hw => ?_)
      obtain ⟨na170, hu_na170⟩ : ∃ y : Nat → Nat → Int32, y = va_up na152 17 (upd (na152 17) v106.toNatClampNeg v156) := ⟨_, rfl⟩
      have hw : pw D A s.heap _ _ [wdP cs h r g tf ta pf151 na170 ma153 wa154 cf ca ef ea xf xa] := (by rw [hu_na170]; exact hw)
      have hv_v156 := hv_v156.ag fp_ok (ag_n hu_na170 (by omega) (by omega))
      have hf_14_v106 := (fl_n hu_na170 (by decide)).trans hf_14_v106
      have hf_15_v106 := (fl_n hu_na170 (by decide)).trans hf_15_v106
      have hf_21_v106 := (fl_n hu_na170 (by decide)).trans hf_21_v106
      have hf_17_v106 : na170 17 v106.toNatClampNeg = v156 := (by rw [hu_na170, va_up_s, pk_us])
      have hfb : FrB 0 na ma na170 ma153 := (by rw [hu_na170]; exact FrB.un hfb (by omega) (by omega))
      have hzg := hzg.ag fg_ok (ag_n hu_na170 (by omega) (by omega))
      exact J65 (((tf 6).toInt - (pf151 11).toInt).toNat + 1) pf151 na170 ma153 wa154 v106 v156 _ _ ls (show (pf151 12).toInt = 1 from by omega) (show (pf151 26).toInt = 0 from by omega) (show (pf151 24).toInt = (pf 24).toInt from by omega) (show (pf151 25).toInt = (pf 25).toInt from by omega) (show (pf 11).toInt + 1 ≤ (pf151 11).toInt from by omega) (show (pf151 11).toInt < (tf 6).toInt from by omega) (show v106.toInt = (pf 13).toInt from by omega) (show v106.toInt < (pf151 13).toInt from by omega) (show (pf151 13).toInt - (pf 13).toInt ≤ (pf151 11).toInt - (pf 11).toInt + 1 from by omega) (show bp ta (pf 11) + 1 ≤ bp ta (pf151 11) from by omega) (show FrB 0 na ma na170 ma153 from hfb) (show FrW (pf 26).toInt wa wa154 from hfw) (show NdF (tf 6).toInt na170 v106 41 p1 from ⟨by omega, hf_14_v106, hf_15_v106, ⟨by omega, by omega⟩, hf_21_v106⟩) (show FlN ma153 22 v106 p0 from hf_22_v106) (show RzG ta (tf 6).toInt na170 ma153 (pf 24) (pf 25) 0 (pf 13).toInt (3 * bp ta (pf 11) - 12) 200 from (RzV.le (rz_eq hzg (by omega) (by omega)) (by omega) (by omega) (by omega) (by omega))) (show v106.toInt + 1 ≤ v156.toInt from by omega) (show RfP ta (tf 6).toInt na170 ma153 (na170 17) v106 v156 (v106.toInt + 1) (pf151 13).toInt (3 * (bp ta (pf151 11) - bp ta (pf 11)) - 3) 200 from ⟨_, hf_17_v106, (RwV.le (row_0 hv_v156 fp_ok) (by omega) (by omega) (by omega) (by omega))⟩) (show (tf 6).toInt - (pf151 11).toInt < (((((tf 6).toInt - (pf151 11).toInt).toNat + 1 : Nat) : Int) : Int) from by omega) hw (lv_sub hl [2, 3, 4, 1, 0] rfl)
  · have nc138 : ¬ v135.toInt = (0 : Int) := mt (i_eq (x := v135) (y := 0)).mpr c138
    refine lv_aload_n S.x S.b d_Mpg_functionText_29 rfl (lv_at hl 1 rfl) ?_
    refine lv_dup S.x S.b d_Mpg_functionText_30 rfl ?_
    refine px_get S k_Mpg hT hw 0 0 11 (v := .int (pf121 11)) rfl rfl rfl (by decide) m9_235 d_Mpg_functionText_31 ?_
    refine lv_iconst (v := 1) S.x S.b d_Mpg_functionText_34 (by decide) ?_
    refine lv_iadd S.x S.b d_Mpg_functionText_35 ?_
    have lr171 := Int32.le_toInt (pf121 11)
    have ur171 := Int32.toInt_lt (pf121 11)
    refine lv_topi (fun z172 ez172 => ?_)
    have tz172 : z172.toInt = ((pf121 11).toInt + (1 : Int) + 2147483648) % 4294967296 - 2147483648 := by rw [ez172]; exact i_add (pf121 11) 1
    have lz172 := Int32.le_toInt z172
    have uz172 := Int32.toInt_lt z172
    try replace tz172 : z172.toInt = (pf121 11).toInt + (1 : Int) := by omega
    have hnx35 := tk_n htk (x := (pf121 11)) (y := z172) (by omega) (by omega) (by omega)
    refine px_put S k_Mpg hT hw 0 0 11 rfl rfl (by decide) m9_235 rfl rfl rfl (Nat.le_of_ble_eq_true rfl) d_Mpg_functionText_36 (w' := wdP cs h r g tf ta (upd pf121 11 z172) na103 ma116 wa cf ca ef ea xf xa) (ps' := [wdP cs h r g tf ta (upd pf121 11 z172) na103 ma116 wa cf ca ef ea xf xa]) rfl rfl (fun H locs hw => ?_)
    refine lv_goto (tgt := 96) S.x S.b d_Mpg_functionText_39 (by decide) ?_
    exact J96 (upd pf121 11 z172) na103 ma116 wa v106 _ _ ls (show (pf121 12).toInt = 1 from by omega) (show (pf121 26).toInt = 0 from by omega) (show (pf121 24).toInt = (pf 24).toInt from by omega) (show (pf121 25).toInt = (pf 25).toInt from by omega) (show (pf 11).toInt + 1 ≤ z172.toInt from by omega) (show z172.toInt < (tf 6).toInt from by omega) (show v106.toInt = (pf 13).toInt from by omega) (show v106.toInt < (pf121 13).toInt from by omega) (show (pf121 13).toInt - (pf 13).toInt ≤ z172.toInt - (pf 11).toInt + 1 from by omega) (show bp ta (pf 11) + 1 ≤ bp ta z172 from by omega) (show FrB 0 na ma na103 ma116 from hfb) (show FrW (pf 26).toInt wa wa from hfw) (show NdF (tf 6).toInt na103 v106 41 p1 from ⟨by omega, hf_14_v106, hf_15_v106, ⟨by omega, by omega⟩, hf_21_v106⟩) (show FlN ma116 22 v106 p0 from hf_22_v106) (show RzG ta (tf 6).toInt na103 ma116 (pf 24) (pf 25) 0 (pf 13).toInt (3 * bp ta (pf 11) - 12) 200 from (RzV.le (rz_eq hzg (by omega) (by omega)) (by omega) (by omega) (by omega) (by omega))) (show LfP ta (tf 6).toInt na103 ma116 (na103 17) v106 (v106.toInt + 1) (pf121 13).toInt (3 * (bp ta z172 - bp ta (pf 11)) - 3) 200 from ⟨-1, _, hf_17_v106, Or.inl ⟨by decide, by decide, by omega⟩⟩) hw (lv_sub hl [1, 2, 3, 0] rfl)
abbrev b_Mpg_piece : ByteArray := prog_16_method_61_code
def y_Mpg_piece : MethodName := ⟨"HomeSystemModel$Program", "piece", "()V"⟩
theorem d_Mpg_piece_0 : decode b_Mpg_piece 0 = .ok (.aload_n 0, 1) := by decide +kernel
theorem d_Mpg_piece_1 : decode b_Mpg_piece 1 = .ok (.iconst 3, 1) := by decide +kernel
theorem d_Mpg_piece_2 : decode b_Mpg_piece 2 = .ok (.invokevirtual 377, 3) := by decide +kernel
theorem d_Mpg_piece_5 : decode b_Mpg_piece 5 = .ok (.ifCond .eq 8, 3) := by decide +kernel
theorem d_Mpg_piece_8 : decode b_Mpg_piece 8 = .ok (.aload_n 0, 1) := by decide +kernel
theorem d_Mpg_piece_9 : decode b_Mpg_piece 9 = .ok (.invokevirtual 512, 3) := by decide +kernel
theorem d_Mpg_piece_12 : decode b_Mpg_piece 12 = .ok (.return_, 1) := by decide +kernel
theorem d_Mpg_piece_13 : decode b_Mpg_piece 13 = .ok (.aload_n 0, 1) := by decide +kernel
theorem d_Mpg_piece_14 : decode b_Mpg_piece 14 = .ok (.aload_n 0, 1) := by decide +kernel
theorem d_Mpg_piece_15 : decode b_Mpg_piece 15 = .ok (.invokevirtual 473, 3) := by decide +kernel
theorem d_Mpg_piece_18 : decode b_Mpg_piece 18 = .ok (.ifCond .ne 11, 3) := by decide +kernel
theorem d_Mpg_piece_21 : decode b_Mpg_piece 21 = .ok (.aload_n 0, 1) := by decide +kernel
theorem d_Mpg_piece_22 : decode b_Mpg_piece 22 = .ok (.iconst 2, 1) := by decide +kernel
theorem d_Mpg_piece_23 : decode b_Mpg_piece 23 = .ok (.invokevirtual 377, 3) := by decide +kernel
theorem d_Mpg_piece_26 : decode b_Mpg_piece 26 = .ok (.ifCond .eq 7, 3) := by decide +kernel
theorem d_Mpg_piece_29 : decode b_Mpg_piece 29 = .ok (.iconst 1, 1) := by decide +kernel
theorem d_Mpg_piece_30 : decode b_Mpg_piece 30 = .ok (.goto 4, 3) := by decide +kernel
theorem d_Mpg_piece_33 : decode b_Mpg_piece 33 = .ok (.iconst 0, 1) := by decide +kernel
theorem d_Mpg_piece_34 : decode b_Mpg_piece 34 = .ok (.invokevirtual 373, 3) := by decide +kernel
theorem d_Mpg_piece_37 : decode b_Mpg_piece 37 = .ok (.aload_n 0, 1) := by decide +kernel
theorem d_Mpg_piece_38 : decode b_Mpg_piece 38 = .ok (.getfield 204, 3) := by decide +kernel
theorem d_Mpg_piece_41 : decode b_Mpg_piece 41 = .ok (.aload_n 0, 1) := by decide +kernel
theorem d_Mpg_piece_42 : decode b_Mpg_piece 42 = .ok (.getfield 360, 3) := by decide +kernel
theorem d_Mpg_piece_45 : decode b_Mpg_piece 45 = .ok (.iaload, 1) := by decide +kernel
theorem d_Mpg_piece_46 : decode b_Mpg_piece 46 = .ok (.istore_n 1, 1) := by decide +kernel
theorem d_Mpg_piece_47 : decode b_Mpg_piece 47 = .ok (.aload_n 0, 1) := by decide +kernel
theorem d_Mpg_piece_48 : decode b_Mpg_piece 48 = .ok (.getfield 201, 3) := by decide +kernel
theorem d_Mpg_piece_51 : decode b_Mpg_piece 51 = .ok (.aload_n 0, 1) := by decide +kernel
theorem d_Mpg_piece_52 : decode b_Mpg_piece 52 = .ok (.getfield 360, 3) := by decide +kernel
theorem d_Mpg_piece_55 : decode b_Mpg_piece 55 = .ok (.iconst 1, 1) := by decide +kernel
theorem d_Mpg_piece_56 : decode b_Mpg_piece 56 = .ok (.iadd, 1) := by decide +kernel
theorem d_Mpg_piece_57 : decode b_Mpg_piece 57 = .ok (.baload, 1) := by decide +kernel
theorem d_Mpg_piece_58 : decode b_Mpg_piece 58 = .ok (.iconst 1, 1) := by decide +kernel
theorem d_Mpg_piece_59 : decode b_Mpg_piece 59 = .ok (.if_icmp .ne 22, 3) := by decide +kernel
theorem d_Mpg_piece_62 : decode b_Mpg_piece 62 = .ok (.aload_n 0, 1) := by decide +kernel
theorem d_Mpg_piece_63 : decode b_Mpg_piece 63 = .ok (.aload_n 0, 1) := by decide +kernel
theorem d_Mpg_piece_64 : decode b_Mpg_piece 64 = .ok (.getfield 360, 3) := by decide +kernel
theorem d_Mpg_piece_67 : decode b_Mpg_piece 67 = .ok (.iconst 2, 1) := by decide +kernel
theorem d_Mpg_piece_68 : decode b_Mpg_piece 68 = .ok (.iadd, 1) := by decide +kernel
theorem d_Mpg_piece_69 : decode b_Mpg_piece 69 = .ok (.ldc 87, 2) := by decide +kernel
theorem d_Mpg_piece_71 : decode b_Mpg_piece 71 = .ok (.invokevirtual 363, 3) := by decide +kernel
theorem d_Mpg_piece_74 : decode b_Mpg_piece 74 = .ok (.ifCond .eq 7, 3) := by decide +kernel
theorem d_Mpg_piece_77 : decode b_Mpg_piece 77 = .ok (.iconst 1, 1) := by decide +kernel
theorem d_Mpg_piece_78 : decode b_Mpg_piece 78 = .ok (.goto 4, 3) := by decide +kernel
theorem d_Mpg_piece_81 : decode b_Mpg_piece 81 = .ok (.iconst 0, 1) := by decide +kernel
theorem d_Mpg_piece_82 : decode b_Mpg_piece 82 = .ok (.istore_n 2, 1) := by decide +kernel
theorem d_Mpg_piece_83 : decode b_Mpg_piece 83 = .ok (.iload_n 2, 1) := by decide +kernel
theorem d_Mpg_piece_84 : decode b_Mpg_piece 84 = .ok (.ifCond .ne 8, 3) := by decide +kernel
theorem d_Mpg_piece_87 : decode b_Mpg_piece 87 = .ok (.iload_n 1, 1) := by decide +kernel
theorem d_Mpg_piece_88 : decode b_Mpg_piece 88 = .ok (.iconst 2, 1) := by decide +kernel
theorem d_Mpg_piece_89 : decode b_Mpg_piece 89 = .ok (.if_icmp .ne 35, 3) := by decide +kernel
theorem d_Mpg_piece_92 : decode b_Mpg_piece 92 = .ok (.aload_n 0, 1) := by decide +kernel
theorem d_Mpg_piece_93 : decode b_Mpg_piece 93 = .ok (.dup, 1) := by decide +kernel
theorem d_Mpg_piece_94 : decode b_Mpg_piece 94 = .ok (.getfield 360, 3) := by decide +kernel
theorem d_Mpg_piece_97 : decode b_Mpg_piece 97 = .ok (.iconst 1, 1) := by decide +kernel
theorem d_Mpg_piece_98 : decode b_Mpg_piece 98 = .ok (.iadd, 1) := by decide +kernel
theorem d_Mpg_piece_99 : decode b_Mpg_piece 99 = .ok (.putfield 360, 3) := by decide +kernel
theorem d_Mpg_piece_102 : decode b_Mpg_piece 102 = .ok (.aload_n 0, 1) := by decide +kernel
theorem d_Mpg_piece_103 : decode b_Mpg_piece 103 = .ok (.invokevirtual 442, 3) := by decide +kernel
theorem d_Mpg_piece_106 : decode b_Mpg_piece 106 = .ok (.istore_n 3, 1) := by decide +kernel
theorem d_Mpg_piece_107 : decode b_Mpg_piece 107 = .ok (.aload_n 0, 1) := by decide +kernel
theorem d_Mpg_piece_108 : decode b_Mpg_piece 108 = .ok (.aload_n 0, 1) := by decide +kernel
theorem d_Mpg_piece_109 : decode b_Mpg_piece 109 = .ok (.ldc 87, 2) := by decide +kernel
theorem d_Mpg_piece_111 : decode b_Mpg_piece 111 = .ok (.invokevirtual 366, 3) := by decide +kernel
theorem d_Mpg_piece_114 : decode b_Mpg_piece 114 = .ok (.invokevirtual 373, 3) := by decide +kernel
theorem d_Mpg_piece_117 : decode b_Mpg_piece 117 = .ok (.aload_n 0, 1) := by decide +kernel
theorem d_Mpg_piece_118 : decode b_Mpg_piece 118 = .ok (.iload_n 1, 1) := by decide +kernel
theorem d_Mpg_piece_119 : decode b_Mpg_piece 119 = .ok (.iload_n 3, 1) := by decide +kernel
theorem d_Mpg_piece_120 : decode b_Mpg_piece 120 = .ok (.invokevirtual 515, 3) := by decide +kernel
theorem d_Mpg_piece_123 : decode b_Mpg_piece 123 = .ok (.return_, 1) := by decide +kernel
theorem d_Mpg_piece_124 : decode b_Mpg_piece 124 = .ok (.aload_n 0, 1) := by decide +kernel
theorem d_Mpg_piece_125 : decode b_Mpg_piece 125 = .ok (.aload_n 0, 1) := by decide +kernel
theorem d_Mpg_piece_126 : decode b_Mpg_piece 126 = .ok (.invokevirtual 476, 3) := by decide +kernel
theorem d_Mpg_piece_129 : decode b_Mpg_piece 129 = .ok (.invokevirtual 506, 3) := by decide +kernel
theorem d_Mpg_piece_132 : decode b_Mpg_piece 132 = .ok (.return_, 1) := by decide +kernel
theorem q_Mpg_piece : px_y y_Mpg_piece 0 := by unfold px_y; decide +kernel
set_option maxHeartbeats 4000000 in
set_option maxRecDepth 100000 in
theorem c_mp_piece (l : Launch) (D : va_G) (cs : Nat → ClassId) (h : Nat) (r : Nat → Nat) (g : Nat → Nat → Option Nat) (tf : Nat → Int32) (ta : Nat → Nat → Int32) (cf : Nat → Int32) (ca : Nat → Nat → Int32) (ef : Nat → Int32) (ea : Nat → Nat → Int32) (xf : Nat → Int32) (xa : Nat → Nat → Int32) (pf : Nat → Int32) (na : Nat → Nat → Int32) (ma : Nat → Nat → Int32) (wa : Nat → Nat → Int32)  (g0 : 0 ≤ (pf 11).toInt) (g1 : (pf 11).toInt < (tf 6).toInt) (g2 : (tf 6).toInt ≤ 2049) (g3 : (pf 12).toInt = 0) (g4 : 0 ≤ (pf 13).toInt) (g5 : (pf 13).toInt ≤ (pf 11).toInt + 10) (g6 : (pf 26).toInt = 0) (g7 : -1 ≤ (pf 25).toInt) (g8 : (pf 25).toInt < (pf 13).toInt) (hlf : l.flags = pinnedFlags ++ [noTraceFlag]) (htk : TkI tf ta) (hzg : RzG ta (tf 6).toInt na ma (pf 24) (pf 25) 0 (pf 13).toInt (3 * bp ta (pf 11)) 200) : ThV l y_Mpg_piece b_Mpg_piece 4 D cs (8 * 61 + 32) (220 * 61 + 1440) [.ref h] [wdP cs h r g tf ta pf na ma wa cf ca ef ea xf xa] (oX (fun A U H => (oN A U H) ∧ (oP A g U H)) [wdP cs h r g tf ta pf na ma wa cf ca ef ea xf xa]) "java/lang/IllegalArgumentException" (fun ps => ∃ (pf' : Nat → Int32) (na' : Nat → Nat → Int32) (ma' : Nat → Nat → Int32) (wa' : Nat → Nat → Int32), (ps = [wdP cs h r g tf ta pf' na' ma' wa' cf ca ef ea xf xa]) ∧ ((pf 11).toInt + 1 ≤ (pf' 11).toInt) ∧ ((pf' 11).toInt < (tf 6).toInt) ∧ ((pf 13).toInt ≤ (pf' 13).toInt) ∧ ((pf' 13).toInt - (pf 13).toInt ≤ (pf' 11).toInt - (pf 11).toInt) ∧ (bp ta (pf 11) + 1 ≤ bp ta (pf' 11)) ∧ ((pf' 12).toInt = 0) ∧ ((pf' 26).toInt = 0) ∧ (-1 ≤ (pf' 25).toInt) ∧ ((pf' 25).toInt < (pf' 13).toInt) ∧ (RzG ta (tf 6).toInt na' ma' (pf' 24) (pf' 25) 0 (pf' 13).toInt (3 * bp ta (pf' 11)) 200)) (fun ps => ∃ (pf' : Nat → Int32) (na' : Nat → Nat → Int32) (ma' : Nat → Nat → Int32) (wa' : Nat → Nat → Int32), ps = [wdP cs h r g tf ta pf' na' ma' wa' cf ca ef ea xf xa] ∧ 0 ≤ (pf' 11).toInt ∧ (pf' 11).toInt + 1 ≤ (tf 6).toInt) := by
  refine th_enter (by decide) (Nat.le_of_ble_eq_true rfl) ?_
  intro p e s m below meth c A ls hAe S hr hlk hnm hA hT hX hw hl hne hadm
  have hl : lv_has ls 4 [(0, .ref h)] := hl
  have cst0 : (0 : Int32).toInt = 0 := rfl
  have cst1 : (1 : Int32).toInt = 1 := rfl
  have cst2 : (2 : Int32).toInt = 2 := rfl
  have cst3 : (3 : Int32).toInt = 3 := rfl
  have hX : (fun A U H => (oN A U H) ∧ (oP A g U H)) A s s.heap := by rw [hAe]; exact hX
  obtain ⟨hN, hP⟩ := hX
  have hZ := hP.1
  have hF0 := hP.2.1
  obtain ⟨lv, hlv⟩ : ∃ y : Nat, y = 61 := ⟨_, rfl⟩
  have hfb : FrB 0 na ma na ma := FrB.rf
  have hfw : FrW (pf 26).toInt wa wa := FrW.rf
  have hb11 := tk_b htk (x := (pf 11)) (by omega) (by omega)
  refine lv_aload_n S.x S.b d_Mpg_piece_0 rfl (lv_at hl 0 rfl) ?_
  refine lv_iconst (v := 3) S.x S.b d_Mpg_piece_1 (by decide) ?_
  refine px_calli (pr := []) (px_runV (As := [.int 3]) (rest := []) S (c_mp_isKey l D cs h r g tf ta pf na ma wa cf ca ef ea xf xa 3  (show 0 ≤ (pf 11).toInt from by omega) (show (pf 11).toInt < (tf 6).toInt from by omega) (show (tf 6).toInt ≤ 2049 from by omega) htk _) hT (pr := []) (pcs := [wdP cs h r g tf ta pf na ma wa cf ca ef ea xf xa]) hw px_X.tt (px_recv hT hw 0 0 rfl rfl rfl) m11_201 m11_198 m11_200 ms_8_10 m1_21 q_Mpg_isKey ⟨show 0 + 1 ≤ (8 * 61 + 32) from by omega, show 8 + (2 + 11) + 0 ≤ (220 * 61 + 1440) from by omega⟩ hl.1 rfl (Nat.le_of_ble_eq_true rfl) d_Mpg_piece_2 ⟨Nat.le_of_ble_eq_true rfl, Nat.le_of_ble_eq_true rfl⟩) hw hA (fun v2 p1 H locs hp1 hw => ?_)
  obtain ⟨rfl, e3, e4⟩ := hp1
  have e3 := z_rng e3
  have e4 : v2.toInt = 1 → (pf 11).toInt + 1 < (tf 6).toInt ∧ so ta (pf 11) = 2 ∧ wh ta (pf 11) = (3 : Int) := e4
  have hw : pw D A s.heap H locs [wdP cs h r g tf ta pf na ma wa cf ca ef ea xf xa] := hw
  have lv2 := Int32.le_toInt v2
  have uv2 := Int32.toInt_lt v2
  refine lv_if_eq (tgt := 13) S.x S.b d_Mpg_piece_5 (by decide) (fun c5 => ?_) (fun c5 => ?_)
  · have nc5 : v2.toInt = (0 : Int) := (i_eq (x := v2) (y := 0)).mp c5
    refine lv_aload_n S.x S.b d_Mpg_piece_13 rfl (lv_at hl 0 rfl) ?_
    refine lv_aload_n S.x S.b d_Mpg_piece_14 rfl (lv_at hl 0 rfl) ?_
    refine px_calli (pr := []) (px_runV (As := []) (rest := [.ref h]) S (c_mp_isType l D cs h r g tf ta pf na ma wa cf ca ef ea xf xa   (show 0 ≤ (pf 11).toInt from by omega) (show (pf 11).toInt < (tf 6).toInt from by omega) (show (tf 6).toInt ≤ 2049 from by omega) htk _) hT (pr := []) (pcs := [wdP cs h r g tf ta pf na ma wa cf ca ef ea xf xa]) hw px_X.tt (px_recv hT hw 0 0 rfl rfl rfl) m12_85 m12_82 m12_84 ms_10_6 m1_21 q_Mpg_isType ⟨show 1 + 1 ≤ (8 * 61 + 32) from by omega, show 8 + (1 + 11) + 40 ≤ (220 * 61 + 1440) from by omega⟩ hl.1 rfl (Nat.le_of_ble_eq_true rfl) d_Mpg_piece_15 ⟨Nat.le_of_ble_eq_true rfl, Nat.le_of_ble_eq_true rfl⟩) hw hA (fun v7 p6 H locs hp6 hw => ?_)
    obtain ⟨rfl, e8, e9⟩ := hp6
    have e8 := z_rng e8
    have e9 : v7.toInt = 1 → (pf 11).toInt + 1 < (tf 6).toInt ∧ so ta (pf 11) = 2 ∧ 0 ≤ wh ta (pf 11) ∧ wh ta (pf 11) ≤ 1 := e9
    have hw : pw D A s.heap H locs [wdP cs h r g tf ta pf na ma wa cf ca ef ea xf xa] := hw
    have lv7 := Int32.le_toInt v7
    have uv7 := Int32.toInt_lt v7
    refine lv_if_ne (tgt := 29) S.x S.b d_Mpg_piece_18 (by decide) (fun c10 => ?_) (fun c10 => ?_)
    · have nc10 : ¬ v7.toInt = (0 : Int) := mt (i_eq (x := v7) (y := 0)).mpr c10
      refine lv_iconst (v := 1) S.x S.b d_Mpg_piece_29 (by decide) ?_
      refine lv_goto (tgt := 34) S.x S.b d_Mpg_piece_30 (by decide) ?_
      refine th_callv (ps0 := [wdP cs h r g tf ta pf na ma wa cf ca ef ea xf xa]) (pr := [wdP cs h r g tf ta pf na ma wa cf ca ef ea xf xa]) (pcs := []) (As := [.int 1]) (rest := []) (c_mp_need l hlf D cs h 1) S hT hw (oX_call (P := (fun A U H => (oN A U H))) (pr := [wdP cs h r g tf ta pf na ma wa cf ca ef ea xf xa]) oG_N hw hA hN) (px_recv hT hw 0 0 rfl rfl rfl) m11_233 m11_230 m11_232 ms_9_0 m1_21 q_Mpg_need ⟨show 6 + 1 ≤ (8 * 61 + 32) from by omega, show 8 + (2 + 11) + 100 ≤ (220 * 61 + 1440) from by omega⟩ hl.1 rfl (Nat.le_of_ble_eq_true rfl) d_Mpg_piece_34 ⟨Nat.le_of_ble_eq_true rfl, Nat.le_of_ble_eq_true rfl⟩ hne hlk hA hAe (fun o t h => Or.inr h) ?_ (fun p11 H locs hp11 hw => ?_)
      · exact fun p1 H1 locs1 hp hw => by subst hp; exact ⟨_, ⟨pf, na, ma, wa, rfl, by omega, by omega⟩, hw.sub [0] rfl rfl⟩
      obtain ⟨rfl, hndp11⟩ := hp11
      have hndp11 : ¬ (1 : Int) = 0 := hndp11
      have hw : pw D A s.heap H locs [wdP cs h r g tf ta pf na ma wa cf ca ef ea xf xa] := hw
      refine lv_aload_n S.x S.b d_Mpg_piece_37 rfl (lv_at hl 0 rfl) ?_
      refine px_get S k_Mpg hT hw 0 0 10 (v := .ref (r 10)) rfl rfl rfl (by decide) m9_234 d_Mpg_piece_38 ?_
      refine lv_aload_n S.x S.b d_Mpg_piece_41 rfl (lv_at hl 0 rfl) ?_
      refine px_get S k_Mpg hT hw 0 0 11 (v := .int (pf 11)) rfl rfl rfl (by decide) m9_235 d_Mpg_piece_42 ?_
      refine px_iald S hT hw 0 9 (n := 2060) (f := (ta 10)) rfl gp_10 (x := (pf 11)) (vp_in_iff.mpr (by constructor <;> omega)) d_Mpg_piece_45 ?_
      refine lv_topi (fun z13 ez13 => ?_)
      have lz13 := Int32.le_toInt z13
      have uz13 := Int32.toInt_lt z13
      have rz13 : z13.toInt = wh ta (pf 11) := by rw [ez13]; rfl
      have hk3 := tk_k3 htk (x := (pf 11)) (by omega) (by omega) (by omega) (by omega)
      refine lv_istore_n (lv' := [(1, .int z13), (0, .ref h)]) S.x S.b d_Mpg_piece_46 rfl hl (by decide) rfl (fun ls hl => ?_)
      refine lv_aload_n S.x S.b d_Mpg_piece_47 rfl (lv_at hl 1 rfl) ?_
      refine px_get S k_Mpg hT hw 0 0 9 (v := .ref (r 9)) rfl rfl rfl (by decide) m9_233 d_Mpg_piece_48 ?_
      refine lv_aload_n S.x S.b d_Mpg_piece_51 rfl (lv_at hl 1 rfl) ?_
      refine px_get S k_Mpg hT hw 0 0 11 (v := .int (pf 11)) rfl rfl rfl (by decide) m9_235 d_Mpg_piece_52 ?_
      refine lv_iconst (v := 1) S.x S.b d_Mpg_piece_55 (by decide) ?_
      refine lv_iadd S.x S.b d_Mpg_piece_56 ?_
      have lr14 := Int32.le_toInt (pf 11)
      have ur14 := Int32.toInt_lt (pf 11)
      refine lv_topi (fun z15 ez15 => ?_)
      have tz15 : z15.toInt = ((pf 11).toInt + (1 : Int) + 2147483648) % 4294967296 - 2147483648 := by rw [ez15]; exact i_add (pf 11) 1
      have lz15 := Int32.le_toInt z15
      have uz15 := Int32.toInt_lt z15
      try replace tz15 : z15.toInt = (pf 11).toInt + (1 : Int) := by omega
      refine px_bald S hT hw 0 8 (n := 2060) (f := (ta 9)) rfl gp_9 (x := z15) (vp_in_iff.mpr (by constructor <;> omega)) d_Mpg_piece_57 ?_
      refine lv_topi (fun z16 ez16 => ?_)
      have lz16 := Int32.le_toInt z16
      have uz16 := Int32.toInt_lt z16
      have rz16 := tk_s htk (x := z15) (by omega) (by omega) ez16
      refine lv_iconst (v := 1) S.x S.b d_Mpg_piece_58 (by decide) ?_
      refine lv_icmp_ne (tgt := 81) S.x S.b d_Mpg_piece_59 (by decide) (fun c17 => ?_) (fun c17 => ?_)
      · have nc17 : ¬ z16.toInt = (1 : Int) := mt (i_eq (x := z16) (y := 1)).mpr c17
        refine lv_iconst (v := 0) S.x S.b d_Mpg_piece_81 (by decide) ?_
        refine lv_istore_n (lv' := [(2, .int 0), (1, .int z13), (0, .ref h)]) S.x S.b d_Mpg_piece_82 rfl hl (by decide) rfl (fun ls hl => ?_)
        refine lv_iload_n S.x S.b d_Mpg_piece_83 rfl (lv_at hl 0 rfl) ?_
        refine lv_if_ne (tgt := 92) S.x S.b d_Mpg_piece_84 (by decide) (fun c18 => ?_) (fun c18 => ?_)
        · exact absurd c18 (by decide)
        ·
          refine lv_iload_n S.x S.b d_Mpg_piece_87 rfl (lv_at hl 1 rfl) ?_
          refine lv_iconst (v := 2) S.x S.b d_Mpg_piece_88 (by decide) ?_
          refine lv_icmp_ne (tgt := 124) S.x S.b d_Mpg_piece_89 (by decide) (fun c19 => ?_) (fun c19 => ?_)
          · have nc19 : ¬ z13.toInt = (2 : Int) := mt (i_eq (x := z13) (y := 2)).mpr c19
            refine lv_aload_n S.x S.b d_Mpg_piece_124 rfl (lv_at hl 2 rfl) ?_
            refine lv_aload_n S.x S.b d_Mpg_piece_125 rfl (lv_at hl 2 rfl) ?_
            refine th_calli (ps0 := [wdP cs h r g tf ta pf na ma wa cf ca ef ea xf xa]) (pr := []) (pcs := [wdP cs h r g tf ta pf na ma wa cf ca ef ea xf xa]) (As := []) (rest := [.ref h]) (c_mp_declaration l D cs h r g tf ta cf ca ef ea xf xa pf na ma wa  lv (show 0 ≤ (pf 11).toInt from by omega) (show (pf 11).toInt < (tf 6).toInt from by omega) (show (tf 6).toInt ≤ 2049 from by omega) (show 0 ≤ (pf 12).toInt from by omega) (show (pf 12).toInt ≤ 60 from by omega) (show 0 ≤ (pf 13).toInt from by omega) (show (pf 13).toInt ≤ (pf 11).toInt + 10 from by omega) (show 0 ≤ (pf 26).toInt from by omega) (show (pf 26).toInt ≤ (pf 12).toInt from by omega) (show 61 ≤ (pf 12).toInt + (lv : Int) from by omega) (show lv ≤ 61 from by omega) (show (pf 11).toInt + 1 < (tf 6).toInt from by omega) (show so ta (pf 11) = 2 from by omega) (show 0 ≤ wh ta (pf 11) from by omega) (show wh ta (pf 11) ≤ 1 from by omega) hlf htk) S hT hw (oX_call (P := (fun A U H => (oN A U H) ∧ (oP A g U H))) (pr := []) (oG_and oG_N oG_P) hw hA ⟨hN, hP⟩) (px_recv hT hw 0 0 rfl rfl rfl) m12_105 m12_102 m12_104 ms_10_11 m1_21 q_Mpg_declaration ⟨show (8 * lv + 25) + 1 ≤ (8 * 61 + 32) from by omega, show 8 + (2 + 11) + (220 * lv + 1160) ≤ (220 * 61 + 1440) from by omega⟩ hl.1 rfl (Nat.le_of_ble_eq_true rfl) d_Mpg_piece_126 ⟨Nat.le_of_ble_eq_true rfl, Nat.le_of_ble_eq_true rfl⟩ hne hlk hA hAe (fun o t h => Or.inr h) ?_ (fun v29 p28 H locs hp28 hw => ?_)
            · exact fun p1 H1 locs1 hp hw => by obtain ⟨pq1, pq2, pq3, pq4, rfl, hq1, hq2⟩ := hp; exact ⟨_, ⟨pq1, pq2, pq3, pq4, rfl, hq1, hq2⟩, hw⟩
            obtain ⟨pf24, na25, ma26, wa27, rfl, e30, e31, e32, e33, e34, e35, e36, e37, e38, e39, e40, e41, e42⟩ := hp28
            have e30 : (pf 11).toInt + 1 ≤ (pf24 11).toInt := e30
            have e31 : (pf24 11).toInt < (tf 6).toInt := e31
            have e32 : (pf 13).toInt + 1 ≤ (pf24 13).toInt := e32
            have e33 : (pf24 13).toInt - (pf 13).toInt ≤ (pf24 11).toInt - (pf 11).toInt := e33
            have e34 : bp ta (pf 11) + 1 ≤ bp ta (pf24 11) := e34
            have e35 : (pf24 12).toInt = (pf 12).toInt := e35
            have e36 : (pf24 24).toInt = (pf 24).toInt := e36
            have e37 : (pf24 25).toInt = (pf 25).toInt := e37
            have e38 : (pf24 26).toInt = (pf 26).toInt := e38
            have e39 : FrB (pf 13).toInt na ma na25 ma26 := e39
            have hzg := hzg.ag fg_ok (FrB.ag e39 (by omega))
            have hfb := hfb.tr e39 (by omega)
            have e40 : FrW (pf 26).toInt wa wa27 := e40
            have hfw := hfw.tr e40 (by omega)
            have e41 : VlS ta (tf 6).toInt na25 ma26 v29 (pf 13).toInt (pf24 13).toInt (3 * (bp ta (pf24 11) - bp ta (pf 11))) (200 - (pf 12).toInt) := e41
            have hv_v29 := e41
            have hn_hv_v29 := hv_v29.num fs_ok
            have e42 : DcN na25 v29 := e42
            have hf_14_v29 : na25 14 v29.toNatClampNeg = 23 := e42
            have hw : pw D A s.heap H locs [wdP cs h r g tf ta pf24 na25 ma26 wa27 cf ca ef ea xf xa] := hw
            have lv29 := Int32.le_toInt v29
            have uv29 := Int32.toInt_lt v29
            refine px_callv (pr := []) (px_runV (As := [.int v29]) (rest := []) S (c_mp_add l D cs h r g tf ta ma26 wa27 cf ca ef ea xf xa pf24 na25 v29  (show (pf24 25).toInt < 2100 from by omega) htk _) hT (pr := []) (pcs := [wdP cs h r g tf ta pf24 na25 ma26 wa27 cf ca ef ea xf xa]) hw px_X.tt (px_recv hT hw 0 0 rfl rfl rfl) m12_81 m12_78 m12_80 ms_10_5 m1_21 q_Mpg_add ⟨show 1 + 1 ≤ (8 * 61 + 32) from by omega, show 8 + (2 + 11) + 30 ≤ (220 * 61 + 1440) from by omega⟩ hl.1 rfl (Nat.le_of_ble_eq_true rfl) d_Mpg_piece_129 ⟨Nat.le_of_ble_eq_true rfl, Nat.le_of_ble_eq_true rfl⟩) hw hA (fun p47 H locs hp47 hw => ?_)
            obtain ⟨pf45, na46, rfl, e49, e50, e51, e52, e53, e54⟩ := hp47
            have e49 : (pf45 11).toInt = (pf24 11).toInt := e49
            have e50 : (pf45 12).toInt = (pf24 12).toInt := e50
            have e51 : (pf45 13).toInt = (pf24 13).toInt := e51
            have e52 : (pf45 26).toInt = (pf24 26).toInt := e52
            have e53 : (pf45 25).toInt = v29.toInt := e53
            have e54 : Hg na25 na46 (pf24 24) (pf24 25) v29 (pf45 24) := e54
            have hvg := vg_decl (VlV.le hv_v29 (Int.le_refl _) (Int.le_refl _) (Int.le_refl _) (show _ ≤ (200 : Int) from by omega)) hf_14_v29
            have hzg := Hg.row e54 fg_ok (rz_eq hzg (by omega) (by omega)) (VlV.le hvg (by omega) (Int.le_refl _) (Int.le_refl _) (by omega)) (by omega) (by omega)
            obtain ⟨qb551, qb552, qb553, qb554⟩ := tk_eq (ta := ta) (x := (pf45 11)) (y := (pf24 11)) (by omega)
            have hw : pw D A s.heap H locs [wdP cs h r g tf ta pf45 na46 ma26 wa27 cf ca ef ea xf xa] := hw
            exact th_vret S hr hlk hAe hw (⟨pf45, na46, ma26, wa27, rfl, (show (pf 11).toInt + 1 ≤ (pf45 11).toInt from by omega), (show (pf45 11).toInt < (tf 6).toInt from by omega), (show (pf 13).toInt ≤ (pf45 13).toInt from by omega), (show (pf45 13).toInt - (pf 13).toInt ≤ (pf45 11).toInt - (pf 11).toInt from by omega), (show bp ta (pf 11) + 1 ≤ bp ta (pf45 11) from by omega), (show (pf45 12).toInt = 0 from by omega), (show (pf45 26).toInt = 0 from by omega), (show -1 ≤ (pf45 25).toInt from by omega), (show (pf45 25).toInt < (pf45 13).toInt from by omega), (show RzG ta (tf 6).toInt na46 ma26 (pf45 24) (pf45 25) 0 (pf45 13).toInt (3 * bp ta (pf45 11)) 200 from (RzV.le (rz_eq (Or.inr hzg) (by omega) (by omega)) (by omega) (by omega) (by omega) (by omega)))⟩) d_Mpg_piece_132
          · have nc19 : z13.toInt = (2 : Int) := (i_eq (x := z13) (y := 2)).mp c19
            refine lv_aload_n S.x S.b d_Mpg_piece_92 rfl (lv_at hl 2 rfl) ?_
            refine lv_dup S.x S.b d_Mpg_piece_93 rfl ?_
            refine px_get S k_Mpg hT hw 0 0 11 (v := .int (pf 11)) rfl rfl rfl (by decide) m9_235 d_Mpg_piece_94 ?_
            refine lv_iconst (v := 1) S.x S.b d_Mpg_piece_97 (by decide) ?_
            refine lv_iadd S.x S.b d_Mpg_piece_98 ?_
            have lr56 := Int32.le_toInt (pf 11)
            have ur56 := Int32.toInt_lt (pf 11)
            refine lv_topi (fun z57 ez57 => ?_)
            have tz57 : z57.toInt = ((pf 11).toInt + (1 : Int) + 2147483648) % 4294967296 - 2147483648 := by rw [ez57]; exact i_add (pf 11) 1
            have lz57 := Int32.le_toInt z57
            have uz57 := Int32.toInt_lt z57
            try replace tz57 : z57.toInt = (pf 11).toInt + (1 : Int) := by omega
            have hnx98 := tk_n htk (x := (pf 11)) (y := z57) (by omega) (by omega) (by omega)
            refine px_put S k_Mpg hT hw 0 0 11 rfl rfl (by decide) m9_235 rfl rfl rfl (Nat.le_of_ble_eq_true rfl) d_Mpg_piece_99 (w' := wdP cs h r g tf ta (upd pf 11 z57) na ma wa cf ca ef ea xf xa) (ps' := [wdP cs h r g tf ta (upd pf 11 z57) na ma wa cf ca ef ea xf xa]) rfl rfl (fun H locs hw => ?_)
            refine lv_aload_n S.x S.b d_Mpg_piece_102 rfl (lv_at hl 2 rfl) ?_
            refine th_calli (ps0 := [wdP cs h r g tf ta pf na ma wa cf ca ef ea xf xa]) (pr := []) (pcs := [wdP cs h r g tf ta (upd pf 11 z57) na ma wa cf ca ef ea xf xa]) (As := []) (rest := []) (c_mp_name l D cs h r g tf ta na ma wa cf ca ef ea xf xa (upd pf 11 z57)   (show 0 ≤ z57.toInt from by omega) (show z57.toInt < (tf 6).toInt from by omega) (show (tf 6).toInt ≤ 2049 from by omega) hlf htk) S hT hw (oX_call (P := (fun A U H => (oN A U H) ∧ (oP A g U H))) (pr := []) (oG_and oG_N oG_P) hw hA ⟨hN, hP⟩) (px_recv hT hw 0 0 rfl rfl rfl) m12_2 m11_239 m12_1 ms_9_2 m1_21 q_Mpg_name ⟨show 7 + 1 ≤ (8 * 61 + 32) from by omega, show 8 + (1 + 11) + 150 ≤ (220 * 61 + 1440) from by omega⟩ hl.1 rfl (Nat.le_of_ble_eq_true rfl) d_Mpg_piece_103 ⟨Nat.le_of_ble_eq_true rfl, Nat.le_of_ble_eq_true rfl⟩ hne hlk hA hAe (fun o t h => Or.inr h) ?_ (fun v61 p60 H locs hp60 hw => ?_)
            · exact fun p1 H1 locs1 hp hw => by obtain ⟨pq1, pq2, pq3, pq4, rfl, hq1, hq2⟩ := hp; exact ⟨_, ⟨pq1, pq2, pq3, pq4, rfl, hq1, hq2⟩, hw⟩
            obtain ⟨pf59, rfl, e62, e63, e64, e65, e66, e67, e68, e69, e70, e71⟩ := hp60
            have e62 : v61.toInt = z57.toInt := e62
            have e63 : SoIs ta v61 1 := e63
            have e64 : (pf59 11).toInt = z57.toInt + 1 := e64
            have e65 : (pf59 11).toInt < (tf 6).toInt := e65
            have e66 : bp ta z57 + 1 ≤ bp ta (pf59 11) := e66
            have e67 : (pf59 12).toInt = (pf 12).toInt := e67
            have e68 : (pf59 13).toInt = (pf 13).toInt := e68
            have e69 : (pf59 24).toInt = (pf 24).toInt := e69
            have e70 : (pf59 25).toInt = (pf 25).toInt := e70
            have e71 : (pf59 26).toInt = (pf 26).toInt := e71
            have hw : pw D A s.heap H locs [wdP cs h r g tf ta pf59 na ma wa cf ca ef ea xf xa] := hw
            have lv61 := Int32.le_toInt v61
            have uv61 := Int32.toInt_lt v61
            refine lv_istore_n (lv' := [(3, .int v61), (2, .int 0), (1, .int z13), (0, .ref h)]) S.x S.b d_Mpg_piece_106 rfl hl (by decide) rfl (fun ls hl => ?_)
            refine lv_aload_n S.x S.b d_Mpg_piece_107 rfl (lv_at hl 3 rfl) ?_
            refine lv_aload_n S.x S.b d_Mpg_piece_108 rfl (lv_at hl 3 rfl) ?_
            obtain ⟨sk72, hRsk72, st73, sb74, hSsk72⟩ := oP_lit hP (k := 87) (tx := "(") (n := 1) (List.mem_of_getElem? (i := 35) rfl)
            refine va_ldcS S.x S.b S.own hRsk72 d_Mpg_piece_109 ?_
            refine px_calli (pr := []) (px_runV (As := [.ref sk72]) (rest := [.ref h]) S (c_mp_is l D cs sk72 1 h r g tf ta pf59 na ma wa cf ca ef ea xf xa   (show 0 ≤ (pf59 11).toInt from by omega) (show (pf59 11).toInt < (tf 6).toInt from by omega) (show (tf 6).toInt ≤ 2049 from by omega) (show 1 ≤ 100 from by omega) htk _) hT (pr := []) (pcs := [wdP cs h r g tf ta pf59 na ma wa cf ca ef ea xf xa]) hw (oX_call (P := (fun A U H => (oP A g U H) ∧ (StS A sk72 1 U H))) (pr := []) (oG_and oG_P oG_Q) hw hA ⟨hP, ⟨_, _, hSsk72⟩⟩) (px_recv hT hw 0 0 rfl rfl rfl) m11_217 m11_214 m11_216 ms_8_14 m1_21 q_Mpg_is ⟨show 3 + 1 ≤ (8 * 61 + 32) from by omega, show 8 + (2 + 11) + 120 ≤ (220 * 61 + 1440) from by omega⟩ hl.1 rfl (Nat.le_of_ble_eq_true rfl) d_Mpg_piece_111 ⟨Nat.le_of_ble_eq_true rfl, Nat.le_of_ble_eq_true rfl⟩) hw hA (fun v76 p75 H locs hp75 hw => ?_)
            obtain ⟨rfl, e77, e78⟩ := hp75
            have e77 := z_rng e77
            have e78 : v76.toInt = 1 → (pf59 11).toInt + 1 < (tf 6).toInt ∧ so ta (pf59 11) = 5 := e78
            have hw : pw D A s.heap H locs [wdP cs h r g tf ta pf59 na ma wa cf ca ef ea xf xa] := hw
            have lv76 := Int32.le_toInt v76
            have uv76 := Int32.toInt_lt v76
            refine th_callv (ps0 := [wdP cs h r g tf ta pf na ma wa cf ca ef ea xf xa]) (pr := [wdP cs h r g tf ta pf59 na ma wa cf ca ef ea xf xa]) (pcs := []) (As := [.int v76]) (rest := []) (c_mp_need l hlf D cs h v76) S hT hw (oX_call (P := (fun A U H => (oN A U H))) (pr := [wdP cs h r g tf ta pf59 na ma wa cf ca ef ea xf xa]) oG_N hw hA hN) (px_recv hT hw 0 0 rfl rfl rfl) m11_233 m11_230 m11_232 ms_9_0 m1_21 q_Mpg_need ⟨show 6 + 1 ≤ (8 * 61 + 32) from by omega, show 8 + (2 + 11) + 100 ≤ (220 * 61 + 1440) from by omega⟩ hl.1 rfl (Nat.le_of_ble_eq_true rfl) d_Mpg_piece_114 ⟨Nat.le_of_ble_eq_true rfl, Nat.le_of_ble_eq_true rfl⟩ hne hlk hA hAe (fun o t h => Or.inr h) ?_ (fun p79 H locs hp79 hw => ?_)
            · exact fun p1 H1 locs1 hp hw => by subst hp; exact ⟨_, ⟨pf59, na, ma, wa, rfl, by omega, by omega⟩, hw.sub [0] rfl rfl⟩
            obtain ⟨rfl, hndp79⟩ := hp79
            have hndp79 : ¬ v76.toInt = 0 := hndp79
            have hw : pw D A s.heap H locs [wdP cs h r g tf ta pf59 na ma wa cf ca ef ea xf xa] := hw
            refine lv_aload_n S.x S.b d_Mpg_piece_117 rfl (lv_at hl 3 rfl) ?_
            refine lv_iload_n S.x S.b d_Mpg_piece_118 rfl (lv_at hl 2 rfl) ?_
            refine lv_iload_n S.x S.b d_Mpg_piece_119 rfl (lv_at hl 0 rfl) ?_
            refine th_callv (ps0 := [wdP cs h r g tf ta pf na ma wa cf ca ef ea xf xa]) (pr := []) (pcs := [wdP cs h r g tf ta pf59 na ma wa cf ca ef ea xf xa]) (As := [.int z13, .int v61]) (rest := []) (c_mp_functionText l D cs h r g tf ta cf ca ef ea xf xa pf59 na ma wa z13 v61  (show 0 ≤ (pf59 11).toInt from by omega) (show (pf59 11).toInt < (tf 6).toInt from by omega) (show (tf 6).toInt ≤ 2049 from by omega) (show (pf59 12).toInt = 0 from by omega) (show 0 ≤ (pf59 13).toInt from by omega) (show (pf59 13).toInt ≤ (pf59 11).toInt + 10 from by omega) (show (pf59 26).toInt = 0 from by omega) (show -1 ≤ (pf59 25).toInt from by omega) (show (pf59 25).toInt < (pf59 13).toInt from by omega) (show 0 ≤ z13.toInt from by omega) (show z13.toInt ≤ 2 from by omega) (show 0 ≤ v61.toInt from by omega) (show v61.toInt < (tf 6).toInt from by omega) (show 4 ≤ bp ta (pf59 11) from by omega) hlf htk (by assumption) (RzV.le (rz_eq hzg (by omega) (by omega)) (by omega) (by omega) (by omega) (by omega))) S hT hw (oX_call (P := (fun A U H => (oN A U H) ∧ (oP A g U H))) (pr := []) (oG_and oG_N oG_P) hw hA ⟨hN, hP⟩) (px_recv hT hw 0 0 rfl rfl rfl) m12_89 m12_86 m12_88 ms_10_7 m1_21 q_Mpg_functionText ⟨show (8 * 61 + 30) + 1 ≤ (8 * 61 + 32) from by omega, show 8 + (6 + 11) + (220 * 61 + 1360) ≤ (220 * 61 + 1440) from by omega⟩ hl.1 rfl (Nat.le_of_ble_eq_true rfl) d_Mpg_piece_120 ⟨Nat.le_of_ble_eq_true rfl, Nat.le_of_ble_eq_true rfl⟩ hne hlk hA hAe (fun o t h => Or.inr h) ?_ (fun p89 H locs hp89 hw => ?_)
            · exact fun p1 H1 locs1 hp hw => by obtain ⟨pq1, pq2, pq3, pq4, rfl, hq1, hq2⟩ := hp; exact ⟨_, ⟨pq1, pq2, pq3, pq4, rfl, hq1, hq2⟩, hw⟩
            obtain ⟨pf85, na86, ma87, wa88, rfl, e91, e92, e93, e94, e95, e96, e97, e98, e99, e100⟩ := hp89
            have e91 : (pf59 11).toInt + 1 ≤ (pf85 11).toInt := e91
            have e92 : (pf85 11).toInt < (tf 6).toInt := e92
            have e93 : (pf59 13).toInt ≤ (pf85 13).toInt := e93
            have e94 : (pf85 13).toInt - (pf59 13).toInt ≤ (pf85 11).toInt - (pf59 11).toInt := e94
            have e95 : bp ta (pf59 11) + 1 ≤ bp ta (pf85 11) := e95
            have e96 : (pf85 12).toInt = 0 := e96
            have e97 : (pf85 26).toInt = 0 := e97
            have e98 : -1 ≤ (pf85 25).toInt := e98
            have e99 : (pf85 25).toInt < (pf85 13).toInt := e99
            have e100 : RzG ta (tf 6).toInt na86 ma87 (pf85 24) (pf85 25) 0 (pf85 13).toInt (3 * bp ta (pf85 11)) 200 := e100
            have hzg := e100
            have hw : pw D A s.heap H locs [wdP cs h r g tf ta pf85 na86 ma87 wa88 cf ca ef ea xf xa] := hw
            exact th_vret S hr hlk hAe hw (⟨pf85, na86, ma87, wa88, rfl, (show (pf 11).toInt + 1 ≤ (pf85 11).toInt from by omega), (show (pf85 11).toInt < (tf 6).toInt from by omega), (show (pf 13).toInt ≤ (pf85 13).toInt from by omega), (show (pf85 13).toInt - (pf 13).toInt ≤ (pf85 11).toInt - (pf 11).toInt from by omega), (show bp ta (pf 11) + 1 ≤ bp ta (pf85 11) from by omega), (show (pf85 12).toInt = 0 from by omega), (show (pf85 26).toInt = 0 from by omega), (show -1 ≤ (pf85 25).toInt from by omega), (show (pf85 25).toInt < (pf85 13).toInt from by omega), (show RzG ta (tf 6).toInt na86 ma87 (pf85 24) (pf85 25) 0 (pf85 13).toInt (3 * bp ta (pf85 11)) 200 from (RzV.le (rz_eq hzg (by omega) (by omega)) (by omega) (by omega) (by omega) (by omega)))⟩) d_Mpg_piece_123
      · have nc17 : z16.toInt = (1 : Int) := (i_eq (x := z16) (y := 1)).mp c17
        refine lv_aload_n S.x S.b d_Mpg_piece_62 rfl (lv_at hl 1 rfl) ?_
        refine lv_aload_n S.x S.b d_Mpg_piece_63 rfl (lv_at hl 1 rfl) ?_
        refine px_get S k_Mpg hT hw 0 0 11 (v := .int (pf 11)) rfl rfl rfl (by decide) m9_235 d_Mpg_piece_64 ?_
        refine lv_iconst (v := 2) S.x S.b d_Mpg_piece_67 (by decide) ?_
        refine lv_iadd S.x S.b d_Mpg_piece_68 ?_
        have lr101 := Int32.le_toInt (pf 11)
        have ur101 := Int32.toInt_lt (pf 11)
        refine lv_topi (fun z102 ez102 => ?_)
        have tz102 : z102.toInt = ((pf 11).toInt + (2 : Int) + 2147483648) % 4294967296 - 2147483648 := by rw [ez102]; exact i_add (pf 11) 2
        have lz102 := Int32.le_toInt z102
        have uz102 := Int32.toInt_lt z102
        try replace tz102 : z102.toInt = (pf 11).toInt + (2 : Int) := by omega
        obtain ⟨sk103, hRsk103, st104, sb105, hSsk103⟩ := oP_lit hP (k := 87) (tx := "(") (n := 1) (List.mem_of_getElem? (i := 35) rfl)
        refine va_ldcS S.x S.b S.own hRsk103 d_Mpg_piece_69 ?_
        refine px_calli (pr := []) (px_runV (As := [.int z102, .ref sk103]) (rest := []) S (c_mp_isAt l D cs sk103 1 h r g tf ta pf na ma wa cf ca ef ea xf xa z102  (show 0 ≤ z102.toInt from by omega) (show z102.toInt < (tf 6).toInt from by omega) (show (tf 6).toInt ≤ 2049 from by omega) (show 1 ≤ 100 from by omega) htk _) hT (pr := []) (pcs := [wdP cs h r g tf ta pf na ma wa cf ca ef ea xf xa]) hw (oX_call (P := (fun A U H => (oP A g U H) ∧ (StS A sk103 1 U H))) (pr := []) (oG_and oG_P oG_Q) hw hA ⟨hP, ⟨_, _, hSsk103⟩⟩) (px_recv hT hw 0 0 rfl rfl rfl) m11_221 m11_218 m11_220 ms_8_15 m1_21 q_Mpg_isAt ⟨show 2 + 1 ≤ (8 * 61 + 32) from by omega, show 8 + (3 + 11) + 80 ≤ (220 * 61 + 1440) from by omega⟩ hl.1 rfl (Nat.le_of_ble_eq_true rfl) d_Mpg_piece_71 ⟨Nat.le_of_ble_eq_true rfl, Nat.le_of_ble_eq_true rfl⟩) hw hA (fun v107 p106 H locs hp106 hw => ?_)
        obtain ⟨rfl, e108, e109⟩ := hp106
        have e108 := z_rng e108
        have e109 : v107.toInt = 1 → z102.toInt + 1 < (tf 6).toInt ∧ so ta z102 = 5 := e109
        have hw : pw D A s.heap H locs [wdP cs h r g tf ta pf na ma wa cf ca ef ea xf xa] := hw
        have lv107 := Int32.le_toInt v107
        have uv107 := Int32.toInt_lt v107
        refine lv_if_eq (tgt := 81) S.x S.b d_Mpg_piece_74 (by decide) (fun c110 => ?_) (fun c110 => ?_)
        · have nc110 : v107.toInt = (0 : Int) := (i_eq (x := v107) (y := 0)).mp c110
          refine lv_iconst (v := 0) S.x S.b d_Mpg_piece_81 (by decide) ?_
          refine lv_istore_n (lv' := [(2, .int 0), (1, .int z13), (0, .ref h)]) S.x S.b d_Mpg_piece_82 rfl hl (by decide) rfl (fun ls hl => ?_)
          refine lv_iload_n S.x S.b d_Mpg_piece_83 rfl (lv_at hl 0 rfl) ?_
          refine lv_if_ne (tgt := 92) S.x S.b d_Mpg_piece_84 (by decide) (fun c111 => ?_) (fun c111 => ?_)
          · exact absurd c111 (by decide)
          ·
            refine lv_iload_n S.x S.b d_Mpg_piece_87 rfl (lv_at hl 1 rfl) ?_
            refine lv_iconst (v := 2) S.x S.b d_Mpg_piece_88 (by decide) ?_
            refine lv_icmp_ne (tgt := 124) S.x S.b d_Mpg_piece_89 (by decide) (fun c112 => ?_) (fun c112 => ?_)
            · have nc112 : ¬ z13.toInt = (2 : Int) := mt (i_eq (x := z13) (y := 2)).mpr c112
              refine lv_aload_n S.x S.b d_Mpg_piece_124 rfl (lv_at hl 2 rfl) ?_
              refine lv_aload_n S.x S.b d_Mpg_piece_125 rfl (lv_at hl 2 rfl) ?_
              refine th_calli (ps0 := [wdP cs h r g tf ta pf na ma wa cf ca ef ea xf xa]) (pr := []) (pcs := [wdP cs h r g tf ta pf na ma wa cf ca ef ea xf xa]) (As := []) (rest := [.ref h]) (c_mp_declaration l D cs h r g tf ta cf ca ef ea xf xa pf na ma wa  lv (show 0 ≤ (pf 11).toInt from by omega) (show (pf 11).toInt < (tf 6).toInt from by omega) (show (tf 6).toInt ≤ 2049 from by omega) (show 0 ≤ (pf 12).toInt from by omega) (show (pf 12).toInt ≤ 60 from by omega) (show 0 ≤ (pf 13).toInt from by omega) (show (pf 13).toInt ≤ (pf 11).toInt + 10 from by omega) (show 0 ≤ (pf 26).toInt from by omega) (show (pf 26).toInt ≤ (pf 12).toInt from by omega) (show 61 ≤ (pf 12).toInt + (lv : Int) from by omega) (show lv ≤ 61 from by omega) (show (pf 11).toInt + 1 < (tf 6).toInt from by omega) (show so ta (pf 11) = 2 from by omega) (show 0 ≤ wh ta (pf 11) from by omega) (show wh ta (pf 11) ≤ 1 from by omega) hlf htk) S hT hw (oX_call (P := (fun A U H => (oN A U H) ∧ (oP A g U H))) (pr := []) (oG_and oG_N oG_P) hw hA ⟨hN, hP⟩) (px_recv hT hw 0 0 rfl rfl rfl) m12_105 m12_102 m12_104 ms_10_11 m1_21 q_Mpg_declaration ⟨show (8 * lv + 25) + 1 ≤ (8 * 61 + 32) from by omega, show 8 + (2 + 11) + (220 * lv + 1160) ≤ (220 * 61 + 1440) from by omega⟩ hl.1 rfl (Nat.le_of_ble_eq_true rfl) d_Mpg_piece_126 ⟨Nat.le_of_ble_eq_true rfl, Nat.le_of_ble_eq_true rfl⟩ hne hlk hA hAe (fun o t h => Or.inr h) ?_ (fun v122 p121 H locs hp121 hw => ?_)
              · exact fun p1 H1 locs1 hp hw => by obtain ⟨pq1, pq2, pq3, pq4, rfl, hq1, hq2⟩ := hp; exact ⟨_, ⟨pq1, pq2, pq3, pq4, rfl, hq1, hq2⟩, hw⟩
              obtain ⟨pf117, na118, ma119, wa120, rfl, e123, e124, e125, e126, e127, e128, e129, e130, e131, e132, e133, e134, e135⟩ := hp121
              have e123 : (pf 11).toInt + 1 ≤ (pf117 11).toInt := e123
              have e124 : (pf117 11).toInt < (tf 6).toInt := e124
              have e125 : (pf 13).toInt + 1 ≤ (pf117 13).toInt := e125
              have e126 : (pf117 13).toInt - (pf 13).toInt ≤ (pf117 11).toInt - (pf 11).toInt := e126
              have e127 : bp ta (pf 11) + 1 ≤ bp ta (pf117 11) := e127
              have e128 : (pf117 12).toInt = (pf 12).toInt := e128
              have e129 : (pf117 24).toInt = (pf 24).toInt := e129
              have e130 : (pf117 25).toInt = (pf 25).toInt := e130
              have e131 : (pf117 26).toInt = (pf 26).toInt := e131
              have e132 : FrB (pf 13).toInt na ma na118 ma119 := e132
              have hzg := hzg.ag fg_ok (FrB.ag e132 (by omega))
              have hfb := hfb.tr e132 (by omega)
              have e133 : FrW (pf 26).toInt wa wa120 := e133
              have hfw := hfw.tr e133 (by omega)
              have e134 : VlS ta (tf 6).toInt na118 ma119 v122 (pf 13).toInt (pf117 13).toInt (3 * (bp ta (pf117 11) - bp ta (pf 11))) (200 - (pf 12).toInt) := e134
              have hv_v122 := e134
              have hn_hv_v122 := hv_v122.num fs_ok
              have e135 : DcN na118 v122 := e135
              have hf_14_v122 : na118 14 v122.toNatClampNeg = 23 := e135
              have hw : pw D A s.heap H locs [wdP cs h r g tf ta pf117 na118 ma119 wa120 cf ca ef ea xf xa] := hw
              have lv122 := Int32.le_toInt v122
              have uv122 := Int32.toInt_lt v122
              refine px_callv (pr := []) (px_runV (As := [.int v122]) (rest := []) S (c_mp_add l D cs h r g tf ta ma119 wa120 cf ca ef ea xf xa pf117 na118 v122  (show (pf117 25).toInt < 2100 from by omega) htk _) hT (pr := []) (pcs := [wdP cs h r g tf ta pf117 na118 ma119 wa120 cf ca ef ea xf xa]) hw px_X.tt (px_recv hT hw 0 0 rfl rfl rfl) m12_81 m12_78 m12_80 ms_10_5 m1_21 q_Mpg_add ⟨show 1 + 1 ≤ (8 * 61 + 32) from by omega, show 8 + (2 + 11) + 30 ≤ (220 * 61 + 1440) from by omega⟩ hl.1 rfl (Nat.le_of_ble_eq_true rfl) d_Mpg_piece_129 ⟨Nat.le_of_ble_eq_true rfl, Nat.le_of_ble_eq_true rfl⟩) hw hA (fun p140 H locs hp140 hw => ?_)
              obtain ⟨pf138, na139, rfl, e142, e143, e144, e145, e146, e147⟩ := hp140
              have e142 : (pf138 11).toInt = (pf117 11).toInt := e142
              have e143 : (pf138 12).toInt = (pf117 12).toInt := e143
              have e144 : (pf138 13).toInt = (pf117 13).toInt := e144
              have e145 : (pf138 26).toInt = (pf117 26).toInt := e145
              have e146 : (pf138 25).toInt = v122.toInt := e146
              have e147 : Hg na118 na139 (pf117 24) (pf117 25) v122 (pf138 24) := e147
              have hvg := vg_decl (VlV.le hv_v122 (Int.le_refl _) (Int.le_refl _) (Int.le_refl _) (show _ ≤ (200 : Int) from by omega)) hf_14_v122
              have hzg := Hg.row e147 fg_ok (rz_eq hzg (by omega) (by omega)) (VlV.le hvg (by omega) (Int.le_refl _) (Int.le_refl _) (by omega)) (by omega) (by omega)
              obtain ⟨qb1481, qb1482, qb1483, qb1484⟩ := tk_eq (ta := ta) (x := (pf138 11)) (y := (pf117 11)) (by omega)
              have hw : pw D A s.heap H locs [wdP cs h r g tf ta pf138 na139 ma119 wa120 cf ca ef ea xf xa] := hw
              exact th_vret S hr hlk hAe hw (⟨pf138, na139, ma119, wa120, rfl, (show (pf 11).toInt + 1 ≤ (pf138 11).toInt from by omega), (show (pf138 11).toInt < (tf 6).toInt from by omega), (show (pf 13).toInt ≤ (pf138 13).toInt from by omega), (show (pf138 13).toInt - (pf 13).toInt ≤ (pf138 11).toInt - (pf 11).toInt from by omega), (show bp ta (pf 11) + 1 ≤ bp ta (pf138 11) from by omega), (show (pf138 12).toInt = 0 from by omega), (show (pf138 26).toInt = 0 from by omega), (show -1 ≤ (pf138 25).toInt from by omega), (show (pf138 25).toInt < (pf138 13).toInt from by omega), (show RzG ta (tf 6).toInt na139 ma119 (pf138 24) (pf138 25) 0 (pf138 13).toInt (3 * bp ta (pf138 11)) 200 from (RzV.le (rz_eq (Or.inr hzg) (by omega) (by omega)) (by omega) (by omega) (by omega) (by omega)))⟩) d_Mpg_piece_132
            · have nc112 : z13.toInt = (2 : Int) := (i_eq (x := z13) (y := 2)).mp c112
              refine lv_aload_n S.x S.b d_Mpg_piece_92 rfl (lv_at hl 2 rfl) ?_
              refine lv_dup S.x S.b d_Mpg_piece_93 rfl ?_
              refine px_get S k_Mpg hT hw 0 0 11 (v := .int (pf 11)) rfl rfl rfl (by decide) m9_235 d_Mpg_piece_94 ?_
              refine lv_iconst (v := 1) S.x S.b d_Mpg_piece_97 (by decide) ?_
              refine lv_iadd S.x S.b d_Mpg_piece_98 ?_
              have lr149 := Int32.le_toInt (pf 11)
              have ur149 := Int32.toInt_lt (pf 11)
              refine lv_topi (fun z150 ez150 => ?_)
              have tz150 : z150.toInt = ((pf 11).toInt + (1 : Int) + 2147483648) % 4294967296 - 2147483648 := by rw [ez150]; exact i_add (pf 11) 1
              have lz150 := Int32.le_toInt z150
              have uz150 := Int32.toInt_lt z150
              try replace tz150 : z150.toInt = (pf 11).toInt + (1 : Int) := by omega
              have hnx98 := tk_n htk (x := (pf 11)) (y := z150) (by omega) (by omega) (by omega)
              refine px_put S k_Mpg hT hw 0 0 11 rfl rfl (by decide) m9_235 rfl rfl rfl (Nat.le_of_ble_eq_true rfl) d_Mpg_piece_99 (w' := wdP cs h r g tf ta (upd pf 11 z150) na ma wa cf ca ef ea xf xa) (ps' := [wdP cs h r g tf ta (upd pf 11 z150) na ma wa cf ca ef ea xf xa]) rfl rfl (fun H locs hw => ?_)
              refine lv_aload_n S.x S.b d_Mpg_piece_102 rfl (lv_at hl 2 rfl) ?_
              refine th_calli (ps0 := [wdP cs h r g tf ta pf na ma wa cf ca ef ea xf xa]) (pr := []) (pcs := [wdP cs h r g tf ta (upd pf 11 z150) na ma wa cf ca ef ea xf xa]) (As := []) (rest := []) (c_mp_name l D cs h r g tf ta na ma wa cf ca ef ea xf xa (upd pf 11 z150)   (show 0 ≤ z150.toInt from by omega) (show z150.toInt < (tf 6).toInt from by omega) (show (tf 6).toInt ≤ 2049 from by omega) hlf htk) S hT hw (oX_call (P := (fun A U H => (oN A U H) ∧ (oP A g U H))) (pr := []) (oG_and oG_N oG_P) hw hA ⟨hN, hP⟩) (px_recv hT hw 0 0 rfl rfl rfl) m12_2 m11_239 m12_1 ms_9_2 m1_21 q_Mpg_name ⟨show 7 + 1 ≤ (8 * 61 + 32) from by omega, show 8 + (1 + 11) + 150 ≤ (220 * 61 + 1440) from by omega⟩ hl.1 rfl (Nat.le_of_ble_eq_true rfl) d_Mpg_piece_103 ⟨Nat.le_of_ble_eq_true rfl, Nat.le_of_ble_eq_true rfl⟩ hne hlk hA hAe (fun o t h => Or.inr h) ?_ (fun v154 p153 H locs hp153 hw => ?_)
              · exact fun p1 H1 locs1 hp hw => by obtain ⟨pq1, pq2, pq3, pq4, rfl, hq1, hq2⟩ := hp; exact ⟨_, ⟨pq1, pq2, pq3, pq4, rfl, hq1, hq2⟩, hw⟩
              obtain ⟨pf152, rfl, e155, e156, e157, e158, e159, e160, e161, e162, e163, e164⟩ := hp153
              have e155 : v154.toInt = z150.toInt := e155
              have e156 : SoIs ta v154 1 := e156
              have e157 : (pf152 11).toInt = z150.toInt + 1 := e157
              have e158 : (pf152 11).toInt < (tf 6).toInt := e158
              have e159 : bp ta z150 + 1 ≤ bp ta (pf152 11) := e159
              have e160 : (pf152 12).toInt = (pf 12).toInt := e160
              have e161 : (pf152 13).toInt = (pf 13).toInt := e161
              have e162 : (pf152 24).toInt = (pf 24).toInt := e162
              have e163 : (pf152 25).toInt = (pf 25).toInt := e163
              have e164 : (pf152 26).toInt = (pf 26).toInt := e164
              have hw : pw D A s.heap H locs [wdP cs h r g tf ta pf152 na ma wa cf ca ef ea xf xa] := hw
              have lv154 := Int32.le_toInt v154
              have uv154 := Int32.toInt_lt v154
              refine lv_istore_n (lv' := [(3, .int v154), (2, .int 0), (1, .int z13), (0, .ref h)]) S.x S.b d_Mpg_piece_106 rfl hl (by decide) rfl (fun ls hl => ?_)
              refine lv_aload_n S.x S.b d_Mpg_piece_107 rfl (lv_at hl 3 rfl) ?_
              refine lv_aload_n S.x S.b d_Mpg_piece_108 rfl (lv_at hl 3 rfl) ?_
              obtain ⟨sk165, hRsk165, st166, sb167, hSsk165⟩ := oP_lit hP (k := 87) (tx := "(") (n := 1) (List.mem_of_getElem? (i := 35) rfl)
              refine va_ldcS S.x S.b S.own hRsk165 d_Mpg_piece_109 ?_
              refine px_calli (pr := []) (px_runV (As := [.ref sk165]) (rest := [.ref h]) S (c_mp_is l D cs sk165 1 h r g tf ta pf152 na ma wa cf ca ef ea xf xa   (show 0 ≤ (pf152 11).toInt from by omega) (show (pf152 11).toInt < (tf 6).toInt from by omega) (show (tf 6).toInt ≤ 2049 from by omega) (show 1 ≤ 100 from by omega) htk _) hT (pr := []) (pcs := [wdP cs h r g tf ta pf152 na ma wa cf ca ef ea xf xa]) hw (oX_call (P := (fun A U H => (oP A g U H) ∧ (StS A sk165 1 U H))) (pr := []) (oG_and oG_P oG_Q) hw hA ⟨hP, ⟨_, _, hSsk165⟩⟩) (px_recv hT hw 0 0 rfl rfl rfl) m11_217 m11_214 m11_216 ms_8_14 m1_21 q_Mpg_is ⟨show 3 + 1 ≤ (8 * 61 + 32) from by omega, show 8 + (2 + 11) + 120 ≤ (220 * 61 + 1440) from by omega⟩ hl.1 rfl (Nat.le_of_ble_eq_true rfl) d_Mpg_piece_111 ⟨Nat.le_of_ble_eq_true rfl, Nat.le_of_ble_eq_true rfl⟩) hw hA (fun v169 p168 H locs hp168 hw => ?_)
              obtain ⟨rfl, e170, e171⟩ := hp168
              have e170 := z_rng e170
              have e171 : v169.toInt = 1 → (pf152 11).toInt + 1 < (tf 6).toInt ∧ so ta (pf152 11) = 5 := e171
              have hw : pw D A s.heap H locs [wdP cs h r g tf ta pf152 na ma wa cf ca ef ea xf xa] := hw
              have lv169 := Int32.le_toInt v169
              have uv169 := Int32.toInt_lt v169
              refine th_callv (ps0 := [wdP cs h r g tf ta pf na ma wa cf ca ef ea xf xa]) (pr := [wdP cs h r g tf ta pf152 na ma wa cf ca ef ea xf xa]) (pcs := []) (As := [.int v169]) (rest := []) (c_mp_need l hlf D cs h v169) S hT hw (oX_call (P := (fun A U H => (oN A U H))) (pr := [wdP cs h r g tf ta pf152 na ma wa cf ca ef ea xf xa]) oG_N hw hA hN) (px_recv hT hw 0 0 rfl rfl rfl) m11_233 m11_230 m11_232 ms_9_0 m1_21 q_Mpg_need ⟨show 6 + 1 ≤ (8 * 61 + 32) from by omega, show 8 + (2 + 11) + 100 ≤ (220 * 61 + 1440) from by omega⟩ hl.1 rfl (Nat.le_of_ble_eq_true rfl) d_Mpg_piece_114 ⟨Nat.le_of_ble_eq_true rfl, Nat.le_of_ble_eq_true rfl⟩ hne hlk hA hAe (fun o t h => Or.inr h) ?_ (fun p172 H locs hp172 hw => ?_)
              · exact fun p1 H1 locs1 hp hw => by subst hp; exact ⟨_, ⟨pf152, na, ma, wa, rfl, by omega, by omega⟩, hw.sub [0] rfl rfl⟩
              obtain ⟨rfl, hndp172⟩ := hp172
              have hndp172 : ¬ v169.toInt = 0 := hndp172
              have hw : pw D A s.heap H locs [wdP cs h r g tf ta pf152 na ma wa cf ca ef ea xf xa] := hw
              refine lv_aload_n S.x S.b d_Mpg_piece_117 rfl (lv_at hl 3 rfl) ?_
              refine lv_iload_n S.x S.b d_Mpg_piece_118 rfl (lv_at hl 2 rfl) ?_
              refine lv_iload_n S.x S.b d_Mpg_piece_119 rfl (lv_at hl 0 rfl) ?_
              refine th_callv (ps0 := [wdP cs h r g tf ta pf na ma wa cf ca ef ea xf xa]) (pr := []) (pcs := [wdP cs h r g tf ta pf152 na ma wa cf ca ef ea xf xa]) (As := [.int z13, .int v154]) (rest := []) (c_mp_functionText l D cs h r g tf ta cf ca ef ea xf xa pf152 na ma wa z13 v154  (show 0 ≤ (pf152 11).toInt from by omega) (show (pf152 11).toInt < (tf 6).toInt from by omega) (show (tf 6).toInt ≤ 2049 from by omega) (show (pf152 12).toInt = 0 from by omega) (show 0 ≤ (pf152 13).toInt from by omega) (show (pf152 13).toInt ≤ (pf152 11).toInt + 10 from by omega) (show (pf152 26).toInt = 0 from by omega) (show -1 ≤ (pf152 25).toInt from by omega) (show (pf152 25).toInt < (pf152 13).toInt from by omega) (show 0 ≤ z13.toInt from by omega) (show z13.toInt ≤ 2 from by omega) (show 0 ≤ v154.toInt from by omega) (show v154.toInt < (tf 6).toInt from by omega) (show 4 ≤ bp ta (pf152 11) from by omega) hlf htk (by assumption) (RzV.le (rz_eq hzg (by omega) (by omega)) (by omega) (by omega) (by omega) (by omega))) S hT hw (oX_call (P := (fun A U H => (oN A U H) ∧ (oP A g U H))) (pr := []) (oG_and oG_N oG_P) hw hA ⟨hN, hP⟩) (px_recv hT hw 0 0 rfl rfl rfl) m12_89 m12_86 m12_88 ms_10_7 m1_21 q_Mpg_functionText ⟨show (8 * 61 + 30) + 1 ≤ (8 * 61 + 32) from by omega, show 8 + (6 + 11) + (220 * 61 + 1360) ≤ (220 * 61 + 1440) from by omega⟩ hl.1 rfl (Nat.le_of_ble_eq_true rfl) d_Mpg_piece_120 ⟨Nat.le_of_ble_eq_true rfl, Nat.le_of_ble_eq_true rfl⟩ hne hlk hA hAe (fun o t h => Or.inr h) ?_ (fun p182 H locs hp182 hw => ?_)
              · exact fun p1 H1 locs1 hp hw => by obtain ⟨pq1, pq2, pq3, pq4, rfl, hq1, hq2⟩ := hp; exact ⟨_, ⟨pq1, pq2, pq3, pq4, rfl, hq1, hq2⟩, hw⟩
              obtain ⟨pf178, na179, ma180, wa181, rfl, e184, e185, e186, e187, e188, e189, e190, e191, e192, e193⟩ := hp182
              have e184 : (pf152 11).toInt + 1 ≤ (pf178 11).toInt := e184
              have e185 : (pf178 11).toInt < (tf 6).toInt := e185
              have e186 : (pf152 13).toInt ≤ (pf178 13).toInt := e186
              have e187 : (pf178 13).toInt - (pf152 13).toInt ≤ (pf178 11).toInt - (pf152 11).toInt := e187
              have e188 : bp ta (pf152 11) + 1 ≤ bp ta (pf178 11) := e188
              have e189 : (pf178 12).toInt = 0 := e189
              have e190 : (pf178 26).toInt = 0 := e190
              have e191 : -1 ≤ (pf178 25).toInt := e191
              have e192 : (pf178 25).toInt < (pf178 13).toInt := e192
              have e193 : RzG ta (tf 6).toInt na179 ma180 (pf178 24) (pf178 25) 0 (pf178 13).toInt (3 * bp ta (pf178 11)) 200 := e193
              have hzg := e193
              have hw : pw D A s.heap H locs [wdP cs h r g tf ta pf178 na179 ma180 wa181 cf ca ef ea xf xa] := hw
              exact th_vret S hr hlk hAe hw (⟨pf178, na179, ma180, wa181, rfl, (show (pf 11).toInt + 1 ≤ (pf178 11).toInt from by omega), (show (pf178 11).toInt < (tf 6).toInt from by omega), (show (pf 13).toInt ≤ (pf178 13).toInt from by omega), (show (pf178 13).toInt - (pf 13).toInt ≤ (pf178 11).toInt - (pf 11).toInt from by omega), (show bp ta (pf 11) + 1 ≤ bp ta (pf178 11) from by omega), (show (pf178 12).toInt = 0 from by omega), (show (pf178 26).toInt = 0 from by omega), (show -1 ≤ (pf178 25).toInt from by omega), (show (pf178 25).toInt < (pf178 13).toInt from by omega), (show RzG ta (tf 6).toInt na179 ma180 (pf178 24) (pf178 25) 0 (pf178 13).toInt (3 * bp ta (pf178 11)) 200 from (RzV.le (rz_eq hzg (by omega) (by omega)) (by omega) (by omega) (by omega) (by omega)))⟩) d_Mpg_piece_123
        · have nc110 : ¬ v107.toInt = (0 : Int) := mt (i_eq (x := v107) (y := 0)).mpr c110
          refine lv_iconst (v := 1) S.x S.b d_Mpg_piece_77 (by decide) ?_
          refine lv_goto (tgt := 82) S.x S.b d_Mpg_piece_78 (by decide) ?_
          refine lv_istore_n (lv' := [(2, .int 1), (1, .int z13), (0, .ref h)]) S.x S.b d_Mpg_piece_82 rfl hl (by decide) rfl (fun ls hl => ?_)
          refine lv_iload_n S.x S.b d_Mpg_piece_83 rfl (lv_at hl 0 rfl) ?_
          refine lv_if_ne (tgt := 92) S.x S.b d_Mpg_piece_84 (by decide) (fun c194 => ?_) (fun c194 => ?_)
          ·
            refine lv_aload_n S.x S.b d_Mpg_piece_92 rfl (lv_at hl 2 rfl) ?_
            refine lv_dup S.x S.b d_Mpg_piece_93 rfl ?_
            refine px_get S k_Mpg hT hw 0 0 11 (v := .int (pf 11)) rfl rfl rfl (by decide) m9_235 d_Mpg_piece_94 ?_
            refine lv_iconst (v := 1) S.x S.b d_Mpg_piece_97 (by decide) ?_
            refine lv_iadd S.x S.b d_Mpg_piece_98 ?_
            have lr195 := Int32.le_toInt (pf 11)
            have ur195 := Int32.toInt_lt (pf 11)
            refine lv_topi (fun z196 ez196 => ?_)
            have tz196 : z196.toInt = ((pf 11).toInt + (1 : Int) + 2147483648) % 4294967296 - 2147483648 := by rw [ez196]; exact i_add (pf 11) 1
            have lz196 := Int32.le_toInt z196
            have uz196 := Int32.toInt_lt z196
            try replace tz196 : z196.toInt = (pf 11).toInt + (1 : Int) := by omega
            have hnx98 := tk_n htk (x := (pf 11)) (y := z196) (by omega) (by omega) (by omega)
            refine px_put S k_Mpg hT hw 0 0 11 rfl rfl (by decide) m9_235 rfl rfl rfl (Nat.le_of_ble_eq_true rfl) d_Mpg_piece_99 (w' := wdP cs h r g tf ta (upd pf 11 z196) na ma wa cf ca ef ea xf xa) (ps' := [wdP cs h r g tf ta (upd pf 11 z196) na ma wa cf ca ef ea xf xa]) rfl rfl (fun H locs hw => ?_)
            refine lv_aload_n S.x S.b d_Mpg_piece_102 rfl (lv_at hl 2 rfl) ?_
            refine th_calli (ps0 := [wdP cs h r g tf ta pf na ma wa cf ca ef ea xf xa]) (pr := []) (pcs := [wdP cs h r g tf ta (upd pf 11 z196) na ma wa cf ca ef ea xf xa]) (As := []) (rest := []) (c_mp_name l D cs h r g tf ta na ma wa cf ca ef ea xf xa (upd pf 11 z196)   (show 0 ≤ z196.toInt from by omega) (show z196.toInt < (tf 6).toInt from by omega) (show (tf 6).toInt ≤ 2049 from by omega) hlf htk) S hT hw (oX_call (P := (fun A U H => (oN A U H) ∧ (oP A g U H))) (pr := []) (oG_and oG_N oG_P) hw hA ⟨hN, hP⟩) (px_recv hT hw 0 0 rfl rfl rfl) m12_2 m11_239 m12_1 ms_9_2 m1_21 q_Mpg_name ⟨show 7 + 1 ≤ (8 * 61 + 32) from by omega, show 8 + (1 + 11) + 150 ≤ (220 * 61 + 1440) from by omega⟩ hl.1 rfl (Nat.le_of_ble_eq_true rfl) d_Mpg_piece_103 ⟨Nat.le_of_ble_eq_true rfl, Nat.le_of_ble_eq_true rfl⟩ hne hlk hA hAe (fun o t h => Or.inr h) ?_ (fun v200 p199 H locs hp199 hw => ?_)
            · exact fun p1 H1 locs1 hp hw => by obtain ⟨pq1, pq2, pq3, pq4, rfl, hq1, hq2⟩ := hp; exact ⟨_, ⟨pq1, pq2, pq3, pq4, rfl, hq1, hq2⟩, hw⟩
            obtain ⟨pf198, rfl, e201, e202, e203, e204, e205, e206, e207, e208, e209, e210⟩ := hp199
            have e201 : v200.toInt = z196.toInt := e201
            have e202 : SoIs ta v200 1 := e202
            have e203 : (pf198 11).toInt = z196.toInt + 1 := e203
            have e204 : (pf198 11).toInt < (tf 6).toInt := e204
            have e205 : bp ta z196 + 1 ≤ bp ta (pf198 11) := e205
            have e206 : (pf198 12).toInt = (pf 12).toInt := e206
            have e207 : (pf198 13).toInt = (pf 13).toInt := e207
            have e208 : (pf198 24).toInt = (pf 24).toInt := e208
            have e209 : (pf198 25).toInt = (pf 25).toInt := e209
            have e210 : (pf198 26).toInt = (pf 26).toInt := e210
            have hw : pw D A s.heap H locs [wdP cs h r g tf ta pf198 na ma wa cf ca ef ea xf xa] := hw
            have lv200 := Int32.le_toInt v200
            have uv200 := Int32.toInt_lt v200
            refine lv_istore_n (lv' := [(3, .int v200), (2, .int 1), (1, .int z13), (0, .ref h)]) S.x S.b d_Mpg_piece_106 rfl hl (by decide) rfl (fun ls hl => ?_)
            refine lv_aload_n S.x S.b d_Mpg_piece_107 rfl (lv_at hl 3 rfl) ?_
            refine lv_aload_n S.x S.b d_Mpg_piece_108 rfl (lv_at hl 3 rfl) ?_
            obtain ⟨sk211, hRsk211, st212, sb213, hSsk211⟩ := oP_lit hP (k := 87) (tx := "(") (n := 1) (List.mem_of_getElem? (i := 35) rfl)
            refine va_ldcS S.x S.b S.own hRsk211 d_Mpg_piece_109 ?_
            refine px_calli (pr := []) (px_runV (As := [.ref sk211]) (rest := [.ref h]) S (c_mp_is l D cs sk211 1 h r g tf ta pf198 na ma wa cf ca ef ea xf xa   (show 0 ≤ (pf198 11).toInt from by omega) (show (pf198 11).toInt < (tf 6).toInt from by omega) (show (tf 6).toInt ≤ 2049 from by omega) (show 1 ≤ 100 from by omega) htk _) hT (pr := []) (pcs := [wdP cs h r g tf ta pf198 na ma wa cf ca ef ea xf xa]) hw (oX_call (P := (fun A U H => (oP A g U H) ∧ (StS A sk211 1 U H))) (pr := []) (oG_and oG_P oG_Q) hw hA ⟨hP, ⟨_, _, hSsk211⟩⟩) (px_recv hT hw 0 0 rfl rfl rfl) m11_217 m11_214 m11_216 ms_8_14 m1_21 q_Mpg_is ⟨show 3 + 1 ≤ (8 * 61 + 32) from by omega, show 8 + (2 + 11) + 120 ≤ (220 * 61 + 1440) from by omega⟩ hl.1 rfl (Nat.le_of_ble_eq_true rfl) d_Mpg_piece_111 ⟨Nat.le_of_ble_eq_true rfl, Nat.le_of_ble_eq_true rfl⟩) hw hA (fun v215 p214 H locs hp214 hw => ?_)
            obtain ⟨rfl, e216, e217⟩ := hp214
            have e216 := z_rng e216
            have e217 : v215.toInt = 1 → (pf198 11).toInt + 1 < (tf 6).toInt ∧ so ta (pf198 11) = 5 := e217
            have hw : pw D A s.heap H locs [wdP cs h r g tf ta pf198 na ma wa cf ca ef ea xf xa] := hw
            have lv215 := Int32.le_toInt v215
            have uv215 := Int32.toInt_lt v215
            refine th_callv (ps0 := [wdP cs h r g tf ta pf na ma wa cf ca ef ea xf xa]) (pr := [wdP cs h r g tf ta pf198 na ma wa cf ca ef ea xf xa]) (pcs := []) (As := [.int v215]) (rest := []) (c_mp_need l hlf D cs h v215) S hT hw (oX_call (P := (fun A U H => (oN A U H))) (pr := [wdP cs h r g tf ta pf198 na ma wa cf ca ef ea xf xa]) oG_N hw hA hN) (px_recv hT hw 0 0 rfl rfl rfl) m11_233 m11_230 m11_232 ms_9_0 m1_21 q_Mpg_need ⟨show 6 + 1 ≤ (8 * 61 + 32) from by omega, show 8 + (2 + 11) + 100 ≤ (220 * 61 + 1440) from by omega⟩ hl.1 rfl (Nat.le_of_ble_eq_true rfl) d_Mpg_piece_114 ⟨Nat.le_of_ble_eq_true rfl, Nat.le_of_ble_eq_true rfl⟩ hne hlk hA hAe (fun o t h => Or.inr h) ?_ (fun p218 H locs hp218 hw => ?_)
            · exact fun p1 H1 locs1 hp hw => by subst hp; exact ⟨_, ⟨pf198, na, ma, wa, rfl, by omega, by omega⟩, hw.sub [0] rfl rfl⟩
            obtain ⟨rfl, hndp218⟩ := hp218
            have hndp218 : ¬ v215.toInt = 0 := hndp218
            have hw : pw D A s.heap H locs [wdP cs h r g tf ta pf198 na ma wa cf ca ef ea xf xa] := hw
            refine lv_aload_n S.x S.b d_Mpg_piece_117 rfl (lv_at hl 3 rfl) ?_
            refine lv_iload_n S.x S.b d_Mpg_piece_118 rfl (lv_at hl 2 rfl) ?_
            refine lv_iload_n S.x S.b d_Mpg_piece_119 rfl (lv_at hl 0 rfl) ?_
            refine th_callv (ps0 := [wdP cs h r g tf ta pf na ma wa cf ca ef ea xf xa]) (pr := []) (pcs := [wdP cs h r g tf ta pf198 na ma wa cf ca ef ea xf xa]) (As := [.int z13, .int v200]) (rest := []) (c_mp_functionText l D cs h r g tf ta cf ca ef ea xf xa pf198 na ma wa z13 v200  (show 0 ≤ (pf198 11).toInt from by omega) (show (pf198 11).toInt < (tf 6).toInt from by omega) (show (tf 6).toInt ≤ 2049 from by omega) (show (pf198 12).toInt = 0 from by omega) (show 0 ≤ (pf198 13).toInt from by omega) (show (pf198 13).toInt ≤ (pf198 11).toInt + 10 from by omega) (show (pf198 26).toInt = 0 from by omega) (show -1 ≤ (pf198 25).toInt from by omega) (show (pf198 25).toInt < (pf198 13).toInt from by omega) (show 0 ≤ z13.toInt from by omega) (show z13.toInt ≤ 2 from by omega) (show 0 ≤ v200.toInt from by omega) (show v200.toInt < (tf 6).toInt from by omega) (show 4 ≤ bp ta (pf198 11) from by omega) hlf htk (by assumption) (RzV.le (rz_eq hzg (by omega) (by omega)) (by omega) (by omega) (by omega) (by omega))) S hT hw (oX_call (P := (fun A U H => (oN A U H) ∧ (oP A g U H))) (pr := []) (oG_and oG_N oG_P) hw hA ⟨hN, hP⟩) (px_recv hT hw 0 0 rfl rfl rfl) m12_89 m12_86 m12_88 ms_10_7 m1_21 q_Mpg_functionText ⟨show (8 * 61 + 30) + 1 ≤ (8 * 61 + 32) from by omega, show 8 + (6 + 11) + (220 * 61 + 1360) ≤ (220 * 61 + 1440) from by omega⟩ hl.1 rfl (Nat.le_of_ble_eq_true rfl) d_Mpg_piece_120 ⟨Nat.le_of_ble_eq_true rfl, Nat.le_of_ble_eq_true rfl⟩ hne hlk hA hAe (fun o t h => Or.inr h) ?_ (fun p228 H locs hp228 hw => ?_)
            · exact fun p1 H1 locs1 hp hw => by obtain ⟨pq1, pq2, pq3, pq4, rfl, hq1, hq2⟩ := hp; exact ⟨_, ⟨pq1, pq2, pq3, pq4, rfl, hq1, hq2⟩, hw⟩
            obtain ⟨pf224, na225, ma226, wa227, rfl, e230, e231, e232, e233, e234, e235, e236, e237, e238, e239⟩ := hp228
            have e230 : (pf198 11).toInt + 1 ≤ (pf224 11).toInt := e230
            have e231 : (pf224 11).toInt < (tf 6).toInt := e231
            have e232 : (pf198 13).toInt ≤ (pf224 13).toInt := e232
            have e233 : (pf224 13).toInt - (pf198 13).toInt ≤ (pf224 11).toInt - (pf198 11).toInt := e233
            have e234 : bp ta (pf198 11) + 1 ≤ bp ta (pf224 11) := e234
            have e235 : (pf224 12).toInt = 0 := e235
            have e236 : (pf224 26).toInt = 0 := e236
            have e237 : -1 ≤ (pf224 25).toInt := e237
            have e238 : (pf224 25).toInt < (pf224 13).toInt := e238
            have e239 : RzG ta (tf 6).toInt na225 ma226 (pf224 24) (pf224 25) 0 (pf224 13).toInt (3 * bp ta (pf224 11)) 200 := e239
            have hzg := e239
            have hw : pw D A s.heap H locs [wdP cs h r g tf ta pf224 na225 ma226 wa227 cf ca ef ea xf xa] := hw
            exact th_vret S hr hlk hAe hw (⟨pf224, na225, ma226, wa227, rfl, (show (pf 11).toInt + 1 ≤ (pf224 11).toInt from by omega), (show (pf224 11).toInt < (tf 6).toInt from by omega), (show (pf 13).toInt ≤ (pf224 13).toInt from by omega), (show (pf224 13).toInt - (pf 13).toInt ≤ (pf224 11).toInt - (pf 11).toInt from by omega), (show bp ta (pf 11) + 1 ≤ bp ta (pf224 11) from by omega), (show (pf224 12).toInt = 0 from by omega), (show (pf224 26).toInt = 0 from by omega), (show -1 ≤ (pf224 25).toInt from by omega), (show (pf224 25).toInt < (pf224 13).toInt from by omega), (show RzG ta (tf 6).toInt na225 ma226 (pf224 24) (pf224 25) 0 (pf224 13).toInt (3 * bp ta (pf224 11)) 200 from (RzV.le (rz_eq hzg (by omega) (by omega)) (by omega) (by omega) (by omega) (by omega)))⟩) d_Mpg_piece_123
          · exact absurd c194 (by decide)
    · have nc10 : v7.toInt = (0 : Int) := (i_eq (x := v7) (y := 0)).mp c10
      refine lv_aload_n S.x S.b d_Mpg_piece_21 rfl (lv_at hl 0 rfl) ?_
      refine lv_iconst (v := 2) S.x S.b d_Mpg_piece_22 (by decide) ?_
      refine px_calli (pr := []) (px_runV (As := [.int 2]) (rest := [.ref h]) S (c_mp_isKey l D cs h r g tf ta pf na ma wa cf ca ef ea xf xa 2  (show 0 ≤ (pf 11).toInt from by omega) (show (pf 11).toInt < (tf 6).toInt from by omega) (show (tf 6).toInt ≤ 2049 from by omega) htk _) hT (pr := []) (pcs := [wdP cs h r g tf ta pf na ma wa cf ca ef ea xf xa]) hw px_X.tt (px_recv hT hw 0 0 rfl rfl rfl) m11_201 m11_198 m11_200 ms_8_10 m1_21 q_Mpg_isKey ⟨show 0 + 1 ≤ (8 * 61 + 32) from by omega, show 8 + (2 + 11) + 0 ≤ (220 * 61 + 1440) from by omega⟩ hl.1 rfl (Nat.le_of_ble_eq_true rfl) d_Mpg_piece_23 ⟨Nat.le_of_ble_eq_true rfl, Nat.le_of_ble_eq_true rfl⟩) hw hA (fun v241 p240 H locs hp240 hw => ?_)
      obtain ⟨rfl, e242, e243⟩ := hp240
      have e242 := z_rng e242
      have e243 : v241.toInt = 1 → (pf 11).toInt + 1 < (tf 6).toInt ∧ so ta (pf 11) = 2 ∧ wh ta (pf 11) = (2 : Int) := e243
      have hw : pw D A s.heap H locs [wdP cs h r g tf ta pf na ma wa cf ca ef ea xf xa] := hw
      have lv241 := Int32.le_toInt v241
      have uv241 := Int32.toInt_lt v241
      refine lv_if_eq (tgt := 33) S.x S.b d_Mpg_piece_26 (by decide) (fun c244 => ?_) (fun c244 => ?_)
      · have nc244 : v241.toInt = (0 : Int) := (i_eq (x := v241) (y := 0)).mp c244
        refine lv_iconst (v := 0) S.x S.b d_Mpg_piece_33 (by decide) ?_
        refine th_callv (ps0 := [wdP cs h r g tf ta pf na ma wa cf ca ef ea xf xa]) (pr := [wdP cs h r g tf ta pf na ma wa cf ca ef ea xf xa]) (pcs := []) (As := [.int 0]) (rest := []) (c_mp_need l hlf D cs h 0) S hT hw (oX_call (P := (fun A U H => (oN A U H))) (pr := [wdP cs h r g tf ta pf na ma wa cf ca ef ea xf xa]) oG_N hw hA hN) (px_recv hT hw 0 0 rfl rfl rfl) m11_233 m11_230 m11_232 ms_9_0 m1_21 q_Mpg_need ⟨show 6 + 1 ≤ (8 * 61 + 32) from by omega, show 8 + (2 + 11) + 100 ≤ (220 * 61 + 1440) from by omega⟩ hl.1 rfl (Nat.le_of_ble_eq_true rfl) d_Mpg_piece_34 ⟨Nat.le_of_ble_eq_true rfl, Nat.le_of_ble_eq_true rfl⟩ hne hlk hA hAe (fun o t h => Or.inr h) ?_ (fun p245 H locs hp245 hw => ?_)
        · exact fun p1 H1 locs1 hp hw => by subst hp; exact ⟨_, ⟨pf, na, ma, wa, rfl, by omega, by omega⟩, hw.sub [0] rfl rfl⟩
        obtain ⟨rfl, hndp245⟩ := hp245
        have hndp245 : ¬ (0 : Int) = 0 := hndp245
        have hw : pw D A s.heap H locs [wdP cs h r g tf ta pf na ma wa cf ca ef ea xf xa] := hw
        refine lv_aload_n S.x S.b d_Mpg_piece_37 rfl (lv_at hl 0 rfl) ?_
        refine px_get S k_Mpg hT hw 0 0 10 (v := .ref (r 10)) rfl rfl rfl (by decide) m9_234 d_Mpg_piece_38 ?_
        refine lv_aload_n S.x S.b d_Mpg_piece_41 rfl (lv_at hl 0 rfl) ?_
        refine px_get S k_Mpg hT hw 0 0 11 (v := .int (pf 11)) rfl rfl rfl (by decide) m9_235 d_Mpg_piece_42 ?_
        refine px_iald S hT hw 0 9 (n := 2060) (f := (ta 10)) rfl gp_10 (x := (pf 11)) (vp_in_iff.mpr (by constructor <;> omega)) d_Mpg_piece_45 ?_
        refine lv_topi (fun z247 ez247 => ?_)
        have lz247 := Int32.le_toInt z247
        have uz247 := Int32.toInt_lt z247
        have rz247 : z247.toInt = wh ta (pf 11) := by rw [ez247]; rfl
        have hk3 := tk_k3 htk (x := (pf 11)) (by omega) (by omega) (by omega) (by omega)
        refine lv_istore_n (lv' := [(1, .int z247), (0, .ref h)]) S.x S.b d_Mpg_piece_46 rfl hl (by decide) rfl (fun ls hl => ?_)
        refine lv_aload_n S.x S.b d_Mpg_piece_47 rfl (lv_at hl 1 rfl) ?_
        refine px_get S k_Mpg hT hw 0 0 9 (v := .ref (r 9)) rfl rfl rfl (by decide) m9_233 d_Mpg_piece_48 ?_
        refine lv_aload_n S.x S.b d_Mpg_piece_51 rfl (lv_at hl 1 rfl) ?_
        refine px_get S k_Mpg hT hw 0 0 11 (v := .int (pf 11)) rfl rfl rfl (by decide) m9_235 d_Mpg_piece_52 ?_
        refine lv_iconst (v := 1) S.x S.b d_Mpg_piece_55 (by decide) ?_
        refine lv_iadd S.x S.b d_Mpg_piece_56 ?_
        have lr248 := Int32.le_toInt (pf 11)
        have ur248 := Int32.toInt_lt (pf 11)
        refine lv_topi (fun z249 ez249 => ?_)
        have tz249 : z249.toInt = ((pf 11).toInt + (1 : Int) + 2147483648) % 4294967296 - 2147483648 := by rw [ez249]; exact i_add (pf 11) 1
        have lz249 := Int32.le_toInt z249
        have uz249 := Int32.toInt_lt z249
        try replace tz249 : z249.toInt = (pf 11).toInt + (1 : Int) := by omega
        refine px_bald S hT hw 0 8 (n := 2060) (f := (ta 9)) rfl gp_9 (x := z249) (vp_in_iff.mpr (by constructor <;> omega)) d_Mpg_piece_57 ?_
        refine lv_topi (fun z250 ez250 => ?_)
        have lz250 := Int32.le_toInt z250
        have uz250 := Int32.toInt_lt z250
        have rz250 := tk_s htk (x := z249) (by omega) (by omega) ez250
        refine lv_iconst (v := 1) S.x S.b d_Mpg_piece_58 (by decide) ?_
        refine lv_icmp_ne (tgt := 81) S.x S.b d_Mpg_piece_59 (by decide) (fun c251 => ?_) (fun c251 => ?_)
        · have nc251 : ¬ z250.toInt = (1 : Int) := mt (i_eq (x := z250) (y := 1)).mpr c251
          refine lv_iconst (v := 0) S.x S.b d_Mpg_piece_81 (by decide) ?_
          refine lv_istore_n (lv' := [(2, .int 0), (1, .int z247), (0, .ref h)]) S.x S.b d_Mpg_piece_82 rfl hl (by decide) rfl (fun ls hl => ?_)
          refine lv_iload_n S.x S.b d_Mpg_piece_83 rfl (lv_at hl 0 rfl) ?_
          refine lv_if_ne (tgt := 92) S.x S.b d_Mpg_piece_84 (by decide) (fun c252 => ?_) (fun c252 => ?_)
          · exact absurd c252 (by decide)
          ·
            refine lv_iload_n S.x S.b d_Mpg_piece_87 rfl (lv_at hl 1 rfl) ?_
            refine lv_iconst (v := 2) S.x S.b d_Mpg_piece_88 (by decide) ?_
            refine lv_icmp_ne (tgt := 124) S.x S.b d_Mpg_piece_89 (by decide) (fun c253 => ?_) (fun c253 => ?_)
            · have nc253 : ¬ z247.toInt = (2 : Int) := mt (i_eq (x := z247) (y := 2)).mpr c253
              refine lv_aload_n S.x S.b d_Mpg_piece_124 rfl (lv_at hl 2 rfl) ?_
              refine lv_aload_n S.x S.b d_Mpg_piece_125 rfl (lv_at hl 2 rfl) ?_
              refine th_calli (ps0 := [wdP cs h r g tf ta pf na ma wa cf ca ef ea xf xa]) (pr := []) (pcs := [wdP cs h r g tf ta pf na ma wa cf ca ef ea xf xa]) (As := []) (rest := [.ref h]) (c_mp_declaration l D cs h r g tf ta cf ca ef ea xf xa pf na ma wa  lv (show 0 ≤ (pf 11).toInt from by omega) (show (pf 11).toInt < (tf 6).toInt from by omega) (show (tf 6).toInt ≤ 2049 from by omega) (show 0 ≤ (pf 12).toInt from by omega) (show (pf 12).toInt ≤ 60 from by omega) (show 0 ≤ (pf 13).toInt from by omega) (show (pf 13).toInt ≤ (pf 11).toInt + 10 from by omega) (show 0 ≤ (pf 26).toInt from by omega) (show (pf 26).toInt ≤ (pf 12).toInt from by omega) (show 61 ≤ (pf 12).toInt + (lv : Int) from by omega) (show lv ≤ 61 from by omega) (show (pf 11).toInt + 1 < (tf 6).toInt from by omega) (show so ta (pf 11) = 2 from by omega) (show 0 ≤ wh ta (pf 11) from by omega) (show wh ta (pf 11) ≤ 1 from by omega) hlf htk) S hT hw (oX_call (P := (fun A U H => (oN A U H) ∧ (oP A g U H))) (pr := []) (oG_and oG_N oG_P) hw hA ⟨hN, hP⟩) (px_recv hT hw 0 0 rfl rfl rfl) m12_105 m12_102 m12_104 ms_10_11 m1_21 q_Mpg_declaration ⟨show (8 * lv + 25) + 1 ≤ (8 * 61 + 32) from by omega, show 8 + (2 + 11) + (220 * lv + 1160) ≤ (220 * 61 + 1440) from by omega⟩ hl.1 rfl (Nat.le_of_ble_eq_true rfl) d_Mpg_piece_126 ⟨Nat.le_of_ble_eq_true rfl, Nat.le_of_ble_eq_true rfl⟩ hne hlk hA hAe (fun o t h => Or.inr h) ?_ (fun v263 p262 H locs hp262 hw => ?_)
              · exact fun p1 H1 locs1 hp hw => by obtain ⟨pq1, pq2, pq3, pq4, rfl, hq1, hq2⟩ := hp; exact ⟨_, ⟨pq1, pq2, pq3, pq4, rfl, hq1, hq2⟩, hw⟩
              obtain ⟨pf258, na259, ma260, wa261, rfl, e264, e265, e266, e267, e268, e269, e270, e271, e272, e273, e274, e275, e276⟩ := hp262
              have e264 : (pf 11).toInt + 1 ≤ (pf258 11).toInt := e264
              have e265 : (pf258 11).toInt < (tf 6).toInt := e265
              have e266 : (pf 13).toInt + 1 ≤ (pf258 13).toInt := e266
              have e267 : (pf258 13).toInt - (pf 13).toInt ≤ (pf258 11).toInt - (pf 11).toInt := e267
              have e268 : bp ta (pf 11) + 1 ≤ bp ta (pf258 11) := e268
              have e269 : (pf258 12).toInt = (pf 12).toInt := e269
              have e270 : (pf258 24).toInt = (pf 24).toInt := e270
              have e271 : (pf258 25).toInt = (pf 25).toInt := e271
              have e272 : (pf258 26).toInt = (pf 26).toInt := e272
              have e273 : FrB (pf 13).toInt na ma na259 ma260 := e273
              have hzg := hzg.ag fg_ok (FrB.ag e273 (by omega))
              have hfb := hfb.tr e273 (by omega)
              have e274 : FrW (pf 26).toInt wa wa261 := e274
              have hfw := hfw.tr e274 (by omega)
              have e275 : VlS ta (tf 6).toInt na259 ma260 v263 (pf 13).toInt (pf258 13).toInt (3 * (bp ta (pf258 11) - bp ta (pf 11))) (200 - (pf 12).toInt) := e275
              have hv_v263 := e275
              have hn_hv_v263 := hv_v263.num fs_ok
              have e276 : DcN na259 v263 := e276
              have hf_14_v263 : na259 14 v263.toNatClampNeg = 23 := e276
              have hw : pw D A s.heap H locs [wdP cs h r g tf ta pf258 na259 ma260 wa261 cf ca ef ea xf xa] := hw
              have lv263 := Int32.le_toInt v263
              have uv263 := Int32.toInt_lt v263
              refine px_callv (pr := []) (px_runV (As := [.int v263]) (rest := []) S (c_mp_add l D cs h r g tf ta ma260 wa261 cf ca ef ea xf xa pf258 na259 v263  (show (pf258 25).toInt < 2100 from by omega) htk _) hT (pr := []) (pcs := [wdP cs h r g tf ta pf258 na259 ma260 wa261 cf ca ef ea xf xa]) hw px_X.tt (px_recv hT hw 0 0 rfl rfl rfl) m12_81 m12_78 m12_80 ms_10_5 m1_21 q_Mpg_add ⟨show 1 + 1 ≤ (8 * 61 + 32) from by omega, show 8 + (2 + 11) + 30 ≤ (220 * 61 + 1440) from by omega⟩ hl.1 rfl (Nat.le_of_ble_eq_true rfl) d_Mpg_piece_129 ⟨Nat.le_of_ble_eq_true rfl, Nat.le_of_ble_eq_true rfl⟩) hw hA (fun p281 H locs hp281 hw => ?_)
              obtain ⟨pf279, na280, rfl, e283, e284, e285, e286, e287, e288⟩ := hp281
              have e283 : (pf279 11).toInt = (pf258 11).toInt := e283
              have e284 : (pf279 12).toInt = (pf258 12).toInt := e284
              have e285 : (pf279 13).toInt = (pf258 13).toInt := e285
              have e286 : (pf279 26).toInt = (pf258 26).toInt := e286
              have e287 : (pf279 25).toInt = v263.toInt := e287
              have e288 : Hg na259 na280 (pf258 24) (pf258 25) v263 (pf279 24) := e288
              have hvg := vg_decl (VlV.le hv_v263 (Int.le_refl _) (Int.le_refl _) (Int.le_refl _) (show _ ≤ (200 : Int) from by omega)) hf_14_v263
              have hzg := Hg.row e288 fg_ok (rz_eq hzg (by omega) (by omega)) (VlV.le hvg (by omega) (Int.le_refl _) (Int.le_refl _) (by omega)) (by omega) (by omega)
              obtain ⟨qb2891, qb2892, qb2893, qb2894⟩ := tk_eq (ta := ta) (x := (pf279 11)) (y := (pf258 11)) (by omega)
              have hw : pw D A s.heap H locs [wdP cs h r g tf ta pf279 na280 ma260 wa261 cf ca ef ea xf xa] := hw
              exact th_vret S hr hlk hAe hw (⟨pf279, na280, ma260, wa261, rfl, (show (pf 11).toInt + 1 ≤ (pf279 11).toInt from by omega), (show (pf279 11).toInt < (tf 6).toInt from by omega), (show (pf 13).toInt ≤ (pf279 13).toInt from by omega), (show (pf279 13).toInt - (pf 13).toInt ≤ (pf279 11).toInt - (pf 11).toInt from by omega), (show bp ta (pf 11) + 1 ≤ bp ta (pf279 11) from by omega), (show (pf279 12).toInt = 0 from by omega), (show (pf279 26).toInt = 0 from by omega), (show -1 ≤ (pf279 25).toInt from by omega), (show (pf279 25).toInt < (pf279 13).toInt from by omega), (show RzG ta (tf 6).toInt na280 ma260 (pf279 24) (pf279 25) 0 (pf279 13).toInt (3 * bp ta (pf279 11)) 200 from (RzV.le (rz_eq (Or.inr hzg) (by omega) (by omega)) (by omega) (by omega) (by omega) (by omega)))⟩) d_Mpg_piece_132
            · have nc253 : z247.toInt = (2 : Int) := (i_eq (x := z247) (y := 2)).mp c253
              refine lv_aload_n S.x S.b d_Mpg_piece_92 rfl (lv_at hl 2 rfl) ?_
              refine lv_dup S.x S.b d_Mpg_piece_93 rfl ?_
              refine px_get S k_Mpg hT hw 0 0 11 (v := .int (pf 11)) rfl rfl rfl (by decide) m9_235 d_Mpg_piece_94 ?_
              refine lv_iconst (v := 1) S.x S.b d_Mpg_piece_97 (by decide) ?_
              refine lv_iadd S.x S.b d_Mpg_piece_98 ?_
              have lr290 := Int32.le_toInt (pf 11)
              have ur290 := Int32.toInt_lt (pf 11)
              refine lv_topi (fun z291 ez291 => ?_)
              have tz291 : z291.toInt = ((pf 11).toInt + (1 : Int) + 2147483648) % 4294967296 - 2147483648 := by rw [ez291]; exact i_add (pf 11) 1
              have lz291 := Int32.le_toInt z291
              have uz291 := Int32.toInt_lt z291
              try replace tz291 : z291.toInt = (pf 11).toInt + (1 : Int) := by omega
              have hnx98 := tk_n htk (x := (pf 11)) (y := z291) (by omega) (by omega) (by omega)
              refine px_put S k_Mpg hT hw 0 0 11 rfl rfl (by decide) m9_235 rfl rfl rfl (Nat.le_of_ble_eq_true rfl) d_Mpg_piece_99 (w' := wdP cs h r g tf ta (upd pf 11 z291) na ma wa cf ca ef ea xf xa) (ps' := [wdP cs h r g tf ta (upd pf 11 z291) na ma wa cf ca ef ea xf xa]) rfl rfl (fun H locs hw => ?_)
              refine lv_aload_n S.x S.b d_Mpg_piece_102 rfl (lv_at hl 2 rfl) ?_
              refine th_calli (ps0 := [wdP cs h r g tf ta pf na ma wa cf ca ef ea xf xa]) (pr := []) (pcs := [wdP cs h r g tf ta (upd pf 11 z291) na ma wa cf ca ef ea xf xa]) (As := []) (rest := []) (c_mp_name l D cs h r g tf ta na ma wa cf ca ef ea xf xa (upd pf 11 z291)   (show 0 ≤ z291.toInt from by omega) (show z291.toInt < (tf 6).toInt from by omega) (show (tf 6).toInt ≤ 2049 from by omega) hlf htk) S hT hw (oX_call (P := (fun A U H => (oN A U H) ∧ (oP A g U H))) (pr := []) (oG_and oG_N oG_P) hw hA ⟨hN, hP⟩) (px_recv hT hw 0 0 rfl rfl rfl) m12_2 m11_239 m12_1 ms_9_2 m1_21 q_Mpg_name ⟨show 7 + 1 ≤ (8 * 61 + 32) from by omega, show 8 + (1 + 11) + 150 ≤ (220 * 61 + 1440) from by omega⟩ hl.1 rfl (Nat.le_of_ble_eq_true rfl) d_Mpg_piece_103 ⟨Nat.le_of_ble_eq_true rfl, Nat.le_of_ble_eq_true rfl⟩ hne hlk hA hAe (fun o t h => Or.inr h) ?_ (fun v295 p294 H locs hp294 hw => ?_)
              · exact fun p1 H1 locs1 hp hw => by obtain ⟨pq1, pq2, pq3, pq4, rfl, hq1, hq2⟩ := hp; exact ⟨_, ⟨pq1, pq2, pq3, pq4, rfl, hq1, hq2⟩, hw⟩
              obtain ⟨pf293, rfl, e296, e297, e298, e299, e300, e301, e302, e303, e304, e305⟩ := hp294
              have e296 : v295.toInt = z291.toInt := e296
              have e297 : SoIs ta v295 1 := e297
              have e298 : (pf293 11).toInt = z291.toInt + 1 := e298
              have e299 : (pf293 11).toInt < (tf 6).toInt := e299
              have e300 : bp ta z291 + 1 ≤ bp ta (pf293 11) := e300
              have e301 : (pf293 12).toInt = (pf 12).toInt := e301
              have e302 : (pf293 13).toInt = (pf 13).toInt := e302
              have e303 : (pf293 24).toInt = (pf 24).toInt := e303
              have e304 : (pf293 25).toInt = (pf 25).toInt := e304
              have e305 : (pf293 26).toInt = (pf 26).toInt := e305
              have hw : pw D A s.heap H locs [wdP cs h r g tf ta pf293 na ma wa cf ca ef ea xf xa] := hw
              have lv295 := Int32.le_toInt v295
              have uv295 := Int32.toInt_lt v295
              refine lv_istore_n (lv' := [(3, .int v295), (2, .int 0), (1, .int z247), (0, .ref h)]) S.x S.b d_Mpg_piece_106 rfl hl (by decide) rfl (fun ls hl => ?_)
              refine lv_aload_n S.x S.b d_Mpg_piece_107 rfl (lv_at hl 3 rfl) ?_
              refine lv_aload_n S.x S.b d_Mpg_piece_108 rfl (lv_at hl 3 rfl) ?_
              obtain ⟨sk306, hRsk306, st307, sb308, hSsk306⟩ := oP_lit hP (k := 87) (tx := "(") (n := 1) (List.mem_of_getElem? (i := 35) rfl)
              refine va_ldcS S.x S.b S.own hRsk306 d_Mpg_piece_109 ?_
              refine px_calli (pr := []) (px_runV (As := [.ref sk306]) (rest := [.ref h]) S (c_mp_is l D cs sk306 1 h r g tf ta pf293 na ma wa cf ca ef ea xf xa   (show 0 ≤ (pf293 11).toInt from by omega) (show (pf293 11).toInt < (tf 6).toInt from by omega) (show (tf 6).toInt ≤ 2049 from by omega) (show 1 ≤ 100 from by omega) htk _) hT (pr := []) (pcs := [wdP cs h r g tf ta pf293 na ma wa cf ca ef ea xf xa]) hw (oX_call (P := (fun A U H => (oP A g U H) ∧ (StS A sk306 1 U H))) (pr := []) (oG_and oG_P oG_Q) hw hA ⟨hP, ⟨_, _, hSsk306⟩⟩) (px_recv hT hw 0 0 rfl rfl rfl) m11_217 m11_214 m11_216 ms_8_14 m1_21 q_Mpg_is ⟨show 3 + 1 ≤ (8 * 61 + 32) from by omega, show 8 + (2 + 11) + 120 ≤ (220 * 61 + 1440) from by omega⟩ hl.1 rfl (Nat.le_of_ble_eq_true rfl) d_Mpg_piece_111 ⟨Nat.le_of_ble_eq_true rfl, Nat.le_of_ble_eq_true rfl⟩) hw hA (fun v310 p309 H locs hp309 hw => ?_)
              obtain ⟨rfl, e311, e312⟩ := hp309
              have e311 := z_rng e311
              have e312 : v310.toInt = 1 → (pf293 11).toInt + 1 < (tf 6).toInt ∧ so ta (pf293 11) = 5 := e312
              have hw : pw D A s.heap H locs [wdP cs h r g tf ta pf293 na ma wa cf ca ef ea xf xa] := hw
              have lv310 := Int32.le_toInt v310
              have uv310 := Int32.toInt_lt v310
              refine th_callv (ps0 := [wdP cs h r g tf ta pf na ma wa cf ca ef ea xf xa]) (pr := [wdP cs h r g tf ta pf293 na ma wa cf ca ef ea xf xa]) (pcs := []) (As := [.int v310]) (rest := []) (c_mp_need l hlf D cs h v310) S hT hw (oX_call (P := (fun A U H => (oN A U H))) (pr := [wdP cs h r g tf ta pf293 na ma wa cf ca ef ea xf xa]) oG_N hw hA hN) (px_recv hT hw 0 0 rfl rfl rfl) m11_233 m11_230 m11_232 ms_9_0 m1_21 q_Mpg_need ⟨show 6 + 1 ≤ (8 * 61 + 32) from by omega, show 8 + (2 + 11) + 100 ≤ (220 * 61 + 1440) from by omega⟩ hl.1 rfl (Nat.le_of_ble_eq_true rfl) d_Mpg_piece_114 ⟨Nat.le_of_ble_eq_true rfl, Nat.le_of_ble_eq_true rfl⟩ hne hlk hA hAe (fun o t h => Or.inr h) ?_ (fun p313 H locs hp313 hw => ?_)
              · exact fun p1 H1 locs1 hp hw => by subst hp; exact ⟨_, ⟨pf293, na, ma, wa, rfl, by omega, by omega⟩, hw.sub [0] rfl rfl⟩
              obtain ⟨rfl, hndp313⟩ := hp313
              have hndp313 : ¬ v310.toInt = 0 := hndp313
              have hw : pw D A s.heap H locs [wdP cs h r g tf ta pf293 na ma wa cf ca ef ea xf xa] := hw
              refine lv_aload_n S.x S.b d_Mpg_piece_117 rfl (lv_at hl 3 rfl) ?_
              refine lv_iload_n S.x S.b d_Mpg_piece_118 rfl (lv_at hl 2 rfl) ?_
              refine lv_iload_n S.x S.b d_Mpg_piece_119 rfl (lv_at hl 0 rfl) ?_
              refine th_callv (ps0 := [wdP cs h r g tf ta pf na ma wa cf ca ef ea xf xa]) (pr := []) (pcs := [wdP cs h r g tf ta pf293 na ma wa cf ca ef ea xf xa]) (As := [.int z247, .int v295]) (rest := []) (c_mp_functionText l D cs h r g tf ta cf ca ef ea xf xa pf293 na ma wa z247 v295  (show 0 ≤ (pf293 11).toInt from by omega) (show (pf293 11).toInt < (tf 6).toInt from by omega) (show (tf 6).toInt ≤ 2049 from by omega) (show (pf293 12).toInt = 0 from by omega) (show 0 ≤ (pf293 13).toInt from by omega) (show (pf293 13).toInt ≤ (pf293 11).toInt + 10 from by omega) (show (pf293 26).toInt = 0 from by omega) (show -1 ≤ (pf293 25).toInt from by omega) (show (pf293 25).toInt < (pf293 13).toInt from by omega) (show 0 ≤ z247.toInt from by omega) (show z247.toInt ≤ 2 from by omega) (show 0 ≤ v295.toInt from by omega) (show v295.toInt < (tf 6).toInt from by omega) (show 4 ≤ bp ta (pf293 11) from by omega) hlf htk (by assumption) (RzV.le (rz_eq hzg (by omega) (by omega)) (by omega) (by omega) (by omega) (by omega))) S hT hw (oX_call (P := (fun A U H => (oN A U H) ∧ (oP A g U H))) (pr := []) (oG_and oG_N oG_P) hw hA ⟨hN, hP⟩) (px_recv hT hw 0 0 rfl rfl rfl) m12_89 m12_86 m12_88 ms_10_7 m1_21 q_Mpg_functionText ⟨show (8 * 61 + 30) + 1 ≤ (8 * 61 + 32) from by omega, show 8 + (6 + 11) + (220 * 61 + 1360) ≤ (220 * 61 + 1440) from by omega⟩ hl.1 rfl (Nat.le_of_ble_eq_true rfl) d_Mpg_piece_120 ⟨Nat.le_of_ble_eq_true rfl, Nat.le_of_ble_eq_true rfl⟩ hne hlk hA hAe (fun o t h => Or.inr h) ?_ (fun p323 H locs hp323 hw => ?_)
              · exact fun p1 H1 locs1 hp hw => by obtain ⟨pq1, pq2, pq3, pq4, rfl, hq1, hq2⟩ := hp; exact ⟨_, ⟨pq1, pq2, pq3, pq4, rfl, hq1, hq2⟩, hw⟩
              obtain ⟨pf319, na320, ma321, wa322, rfl, e325, e326, e327, e328, e329, e330, e331, e332, e333, e334⟩ := hp323
              have e325 : (pf293 11).toInt + 1 ≤ (pf319 11).toInt := e325
              have e326 : (pf319 11).toInt < (tf 6).toInt := e326
              have e327 : (pf293 13).toInt ≤ (pf319 13).toInt := e327
              have e328 : (pf319 13).toInt - (pf293 13).toInt ≤ (pf319 11).toInt - (pf293 11).toInt := e328
              have e329 : bp ta (pf293 11) + 1 ≤ bp ta (pf319 11) := e329
              have e330 : (pf319 12).toInt = 0 := e330
              have e331 : (pf319 26).toInt = 0 := e331
              have e332 : -1 ≤ (pf319 25).toInt := e332
              have e333 : (pf319 25).toInt < (pf319 13).toInt := e333
              have e334 : RzG ta (tf 6).toInt na320 ma321 (pf319 24) (pf319 25) 0 (pf319 13).toInt (3 * bp ta (pf319 11)) 200 := e334
              have hzg := e334
              have hw : pw D A s.heap H locs [wdP cs h r g tf ta pf319 na320 ma321 wa322 cf ca ef ea xf xa] := hw
              exact th_vret S hr hlk hAe hw (⟨pf319, na320, ma321, wa322, rfl, (show (pf 11).toInt + 1 ≤ (pf319 11).toInt from by omega), (show (pf319 11).toInt < (tf 6).toInt from by omega), (show (pf 13).toInt ≤ (pf319 13).toInt from by omega), (show (pf319 13).toInt - (pf 13).toInt ≤ (pf319 11).toInt - (pf 11).toInt from by omega), (show bp ta (pf 11) + 1 ≤ bp ta (pf319 11) from by omega), (show (pf319 12).toInt = 0 from by omega), (show (pf319 26).toInt = 0 from by omega), (show -1 ≤ (pf319 25).toInt from by omega), (show (pf319 25).toInt < (pf319 13).toInt from by omega), (show RzG ta (tf 6).toInt na320 ma321 (pf319 24) (pf319 25) 0 (pf319 13).toInt (3 * bp ta (pf319 11)) 200 from (RzV.le (rz_eq hzg (by omega) (by omega)) (by omega) (by omega) (by omega) (by omega)))⟩) d_Mpg_piece_123
        · have nc251 : z250.toInt = (1 : Int) := (i_eq (x := z250) (y := 1)).mp c251
          refine lv_aload_n S.x S.b d_Mpg_piece_62 rfl (lv_at hl 1 rfl) ?_
          refine lv_aload_n S.x S.b d_Mpg_piece_63 rfl (lv_at hl 1 rfl) ?_
          refine px_get S k_Mpg hT hw 0 0 11 (v := .int (pf 11)) rfl rfl rfl (by decide) m9_235 d_Mpg_piece_64 ?_
          refine lv_iconst (v := 2) S.x S.b d_Mpg_piece_67 (by decide) ?_
          refine lv_iadd S.x S.b d_Mpg_piece_68 ?_
          have lr335 := Int32.le_toInt (pf 11)
          have ur335 := Int32.toInt_lt (pf 11)
          refine lv_topi (fun z336 ez336 => ?_)
          have tz336 : z336.toInt = ((pf 11).toInt + (2 : Int) + 2147483648) % 4294967296 - 2147483648 := by rw [ez336]; exact i_add (pf 11) 2
          have lz336 := Int32.le_toInt z336
          have uz336 := Int32.toInt_lt z336
          try replace tz336 : z336.toInt = (pf 11).toInt + (2 : Int) := by omega
          obtain ⟨sk337, hRsk337, st338, sb339, hSsk337⟩ := oP_lit hP (k := 87) (tx := "(") (n := 1) (List.mem_of_getElem? (i := 35) rfl)
          refine va_ldcS S.x S.b S.own hRsk337 d_Mpg_piece_69 ?_
          refine px_calli (pr := []) (px_runV (As := [.int z336, .ref sk337]) (rest := []) S (c_mp_isAt l D cs sk337 1 h r g tf ta pf na ma wa cf ca ef ea xf xa z336  (show 0 ≤ z336.toInt from by omega) (show z336.toInt < (tf 6).toInt from by omega) (show (tf 6).toInt ≤ 2049 from by omega) (show 1 ≤ 100 from by omega) htk _) hT (pr := []) (pcs := [wdP cs h r g tf ta pf na ma wa cf ca ef ea xf xa]) hw (oX_call (P := (fun A U H => (oP A g U H) ∧ (StS A sk337 1 U H))) (pr := []) (oG_and oG_P oG_Q) hw hA ⟨hP, ⟨_, _, hSsk337⟩⟩) (px_recv hT hw 0 0 rfl rfl rfl) m11_221 m11_218 m11_220 ms_8_15 m1_21 q_Mpg_isAt ⟨show 2 + 1 ≤ (8 * 61 + 32) from by omega, show 8 + (3 + 11) + 80 ≤ (220 * 61 + 1440) from by omega⟩ hl.1 rfl (Nat.le_of_ble_eq_true rfl) d_Mpg_piece_71 ⟨Nat.le_of_ble_eq_true rfl, Nat.le_of_ble_eq_true rfl⟩) hw hA (fun v341 p340 H locs hp340 hw => ?_)
          obtain ⟨rfl, e342, e343⟩ := hp340
          have e342 := z_rng e342
          have e343 : v341.toInt = 1 → z336.toInt + 1 < (tf 6).toInt ∧ so ta z336 = 5 := e343
          have hw : pw D A s.heap H locs [wdP cs h r g tf ta pf na ma wa cf ca ef ea xf xa] := hw
          have lv341 := Int32.le_toInt v341
          have uv341 := Int32.toInt_lt v341
          refine lv_if_eq (tgt := 81) S.x S.b d_Mpg_piece_74 (by decide) (fun c344 => ?_) (fun c344 => ?_)
          · have nc344 : v341.toInt = (0 : Int) := (i_eq (x := v341) (y := 0)).mp c344
            refine lv_iconst (v := 0) S.x S.b d_Mpg_piece_81 (by decide) ?_
            refine lv_istore_n (lv' := [(2, .int 0), (1, .int z247), (0, .ref h)]) S.x S.b d_Mpg_piece_82 rfl hl (by decide) rfl (fun ls hl => ?_)
            refine lv_iload_n S.x S.b d_Mpg_piece_83 rfl (lv_at hl 0 rfl) ?_
            refine lv_if_ne (tgt := 92) S.x S.b d_Mpg_piece_84 (by decide) (fun c345 => ?_) (fun c345 => ?_)
            · exact absurd c345 (by decide)
            ·
              refine lv_iload_n S.x S.b d_Mpg_piece_87 rfl (lv_at hl 1 rfl) ?_
              refine lv_iconst (v := 2) S.x S.b d_Mpg_piece_88 (by decide) ?_
              refine lv_icmp_ne (tgt := 124) S.x S.b d_Mpg_piece_89 (by decide) (fun c346 => ?_) (fun c346 => ?_)
              · have nc346 : ¬ z247.toInt = (2 : Int) := mt (i_eq (x := z247) (y := 2)).mpr c346
                refine lv_aload_n S.x S.b d_Mpg_piece_124 rfl (lv_at hl 2 rfl) ?_
                refine lv_aload_n S.x S.b d_Mpg_piece_125 rfl (lv_at hl 2 rfl) ?_
                refine th_calli (ps0 := [wdP cs h r g tf ta pf na ma wa cf ca ef ea xf xa]) (pr := []) (pcs := [wdP cs h r g tf ta pf na ma wa cf ca ef ea xf xa]) (As := []) (rest := [.ref h]) (c_mp_declaration l D cs h r g tf ta cf ca ef ea xf xa pf na ma wa  lv (show 0 ≤ (pf 11).toInt from by omega) (show (pf 11).toInt < (tf 6).toInt from by omega) (show (tf 6).toInt ≤ 2049 from by omega) (show 0 ≤ (pf 12).toInt from by omega) (show (pf 12).toInt ≤ 60 from by omega) (show 0 ≤ (pf 13).toInt from by omega) (show (pf 13).toInt ≤ (pf 11).toInt + 10 from by omega) (show 0 ≤ (pf 26).toInt from by omega) (show (pf 26).toInt ≤ (pf 12).toInt from by omega) (show 61 ≤ (pf 12).toInt + (lv : Int) from by omega) (show lv ≤ 61 from by omega) (show (pf 11).toInt + 1 < (tf 6).toInt from by omega) (show so ta (pf 11) = 2 from by omega) (show 0 ≤ wh ta (pf 11) from by omega) (show wh ta (pf 11) ≤ 1 from by omega) hlf htk) S hT hw (oX_call (P := (fun A U H => (oN A U H) ∧ (oP A g U H))) (pr := []) (oG_and oG_N oG_P) hw hA ⟨hN, hP⟩) (px_recv hT hw 0 0 rfl rfl rfl) m12_105 m12_102 m12_104 ms_10_11 m1_21 q_Mpg_declaration ⟨show (8 * lv + 25) + 1 ≤ (8 * 61 + 32) from by omega, show 8 + (2 + 11) + (220 * lv + 1160) ≤ (220 * 61 + 1440) from by omega⟩ hl.1 rfl (Nat.le_of_ble_eq_true rfl) d_Mpg_piece_126 ⟨Nat.le_of_ble_eq_true rfl, Nat.le_of_ble_eq_true rfl⟩ hne hlk hA hAe (fun o t h => Or.inr h) ?_ (fun v356 p355 H locs hp355 hw => ?_)
                · exact fun p1 H1 locs1 hp hw => by obtain ⟨pq1, pq2, pq3, pq4, rfl, hq1, hq2⟩ := hp; exact ⟨_, ⟨pq1, pq2, pq3, pq4, rfl, hq1, hq2⟩, hw⟩
                obtain ⟨pf351, na352, ma353, wa354, rfl, e357, e358, e359, e360, e361, e362, e363, e364, e365, e366, e367, e368, e369⟩ := hp355
                have e357 : (pf 11).toInt + 1 ≤ (pf351 11).toInt := e357
                have e358 : (pf351 11).toInt < (tf 6).toInt := e358
                have e359 : (pf 13).toInt + 1 ≤ (pf351 13).toInt := e359
                have e360 : (pf351 13).toInt - (pf 13).toInt ≤ (pf351 11).toInt - (pf 11).toInt := e360
                have e361 : bp ta (pf 11) + 1 ≤ bp ta (pf351 11) := e361
                have e362 : (pf351 12).toInt = (pf 12).toInt := e362
                have e363 : (pf351 24).toInt = (pf 24).toInt := e363
                have e364 : (pf351 25).toInt = (pf 25).toInt := e364
                have e365 : (pf351 26).toInt = (pf 26).toInt := e365
                have e366 : FrB (pf 13).toInt na ma na352 ma353 := e366
                have hzg := hzg.ag fg_ok (FrB.ag e366 (by omega))
                have hfb := hfb.tr e366 (by omega)
                have e367 : FrW (pf 26).toInt wa wa354 := e367
                have hfw := hfw.tr e367 (by omega)
                have e368 : VlS ta (tf 6).toInt na352 ma353 v356 (pf 13).toInt (pf351 13).toInt (3 * (bp ta (pf351 11) - bp ta (pf 11))) (200 - (pf 12).toInt) := e368
                have hv_v356 := e368
                have hn_hv_v356 := hv_v356.num fs_ok
                have e369 : DcN na352 v356 := e369
                have hf_14_v356 : na352 14 v356.toNatClampNeg = 23 := e369
                have hw : pw D A s.heap H locs [wdP cs h r g tf ta pf351 na352 ma353 wa354 cf ca ef ea xf xa] := hw
                have lv356 := Int32.le_toInt v356
                have uv356 := Int32.toInt_lt v356
                refine px_callv (pr := []) (px_runV (As := [.int v356]) (rest := []) S (c_mp_add l D cs h r g tf ta ma353 wa354 cf ca ef ea xf xa pf351 na352 v356  (show (pf351 25).toInt < 2100 from by omega) htk _) hT (pr := []) (pcs := [wdP cs h r g tf ta pf351 na352 ma353 wa354 cf ca ef ea xf xa]) hw px_X.tt (px_recv hT hw 0 0 rfl rfl rfl) m12_81 m12_78 m12_80 ms_10_5 m1_21 q_Mpg_add ⟨show 1 + 1 ≤ (8 * 61 + 32) from by omega, show 8 + (2 + 11) + 30 ≤ (220 * 61 + 1440) from by omega⟩ hl.1 rfl (Nat.le_of_ble_eq_true rfl) d_Mpg_piece_129 ⟨Nat.le_of_ble_eq_true rfl, Nat.le_of_ble_eq_true rfl⟩) hw hA (fun p374 H locs hp374 hw => ?_)
                obtain ⟨pf372, na373, rfl, e376, e377, e378, e379, e380, e381⟩ := hp374
                have e376 : (pf372 11).toInt = (pf351 11).toInt := e376
                have e377 : (pf372 12).toInt = (pf351 12).toInt := e377
                have e378 : (pf372 13).toInt = (pf351 13).toInt := e378
                have e379 : (pf372 26).toInt = (pf351 26).toInt := e379
                have e380 : (pf372 25).toInt = v356.toInt := e380
                have e381 : Hg na352 na373 (pf351 24) (pf351 25) v356 (pf372 24) := e381
                have hvg := vg_decl (VlV.le hv_v356 (Int.le_refl _) (Int.le_refl _) (Int.le_refl _) (show _ ≤ (200 : Int) from by omega)) hf_14_v356
                have hzg := Hg.row e381 fg_ok (rz_eq hzg (by omega) (by omega)) (VlV.le hvg (by omega) (Int.le_refl _) (Int.le_refl _) (by omega)) (by omega) (by omega)
                obtain ⟨qb3821, qb3822, qb3823, qb3824⟩ := tk_eq (ta := ta) (x := (pf372 11)) (y := (pf351 11)) (by omega)
                have hw : pw D A s.heap H locs [wdP cs h r g tf ta pf372 na373 ma353 wa354 cf ca ef ea xf xa] := hw
                exact th_vret S hr hlk hAe hw (⟨pf372, na373, ma353, wa354, rfl, (show (pf 11).toInt + 1 ≤ (pf372 11).toInt from by omega), (show (pf372 11).toInt < (tf 6).toInt from by omega), (show (pf 13).toInt ≤ (pf372 13).toInt from by omega), (show (pf372 13).toInt - (pf 13).toInt ≤ (pf372 11).toInt - (pf 11).toInt from by omega), (show bp ta (pf 11) + 1 ≤ bp ta (pf372 11) from by omega), (show (pf372 12).toInt = 0 from by omega), (show (pf372 26).toInt = 0 from by omega), (show -1 ≤ (pf372 25).toInt from by omega), (show (pf372 25).toInt < (pf372 13).toInt from by omega), (show RzG ta (tf 6).toInt na373 ma353 (pf372 24) (pf372 25) 0 (pf372 13).toInt (3 * bp ta (pf372 11)) 200 from (RzV.le (rz_eq (Or.inr hzg) (by omega) (by omega)) (by omega) (by omega) (by omega) (by omega)))⟩) d_Mpg_piece_132
              · have nc346 : z247.toInt = (2 : Int) := (i_eq (x := z247) (y := 2)).mp c346
                refine lv_aload_n S.x S.b d_Mpg_piece_92 rfl (lv_at hl 2 rfl) ?_
                refine lv_dup S.x S.b d_Mpg_piece_93 rfl ?_
                refine px_get S k_Mpg hT hw 0 0 11 (v := .int (pf 11)) rfl rfl rfl (by decide) m9_235 d_Mpg_piece_94 ?_
                refine lv_iconst (v := 1) S.x S.b d_Mpg_piece_97 (by decide) ?_
                refine lv_iadd S.x S.b d_Mpg_piece_98 ?_
                have lr383 := Int32.le_toInt (pf 11)
                have ur383 := Int32.toInt_lt (pf 11)
                refine lv_topi (fun z384 ez384 => ?_)
                have tz384 : z384.toInt = ((pf 11).toInt + (1 : Int) + 2147483648) % 4294967296 - 2147483648 := by rw [ez384]; exact i_add (pf 11) 1
                have lz384 := Int32.le_toInt z384
                have uz384 := Int32.toInt_lt z384
                try replace tz384 : z384.toInt = (pf 11).toInt + (1 : Int) := by omega
                have hnx98 := tk_n htk (x := (pf 11)) (y := z384) (by omega) (by omega) (by omega)
                refine px_put S k_Mpg hT hw 0 0 11 rfl rfl (by decide) m9_235 rfl rfl rfl (Nat.le_of_ble_eq_true rfl) d_Mpg_piece_99 (w' := wdP cs h r g tf ta (upd pf 11 z384) na ma wa cf ca ef ea xf xa) (ps' := [wdP cs h r g tf ta (upd pf 11 z384) na ma wa cf ca ef ea xf xa]) rfl rfl (fun H locs hw => ?_)
                refine lv_aload_n S.x S.b d_Mpg_piece_102 rfl (lv_at hl 2 rfl) ?_
                refine th_calli (ps0 := [wdP cs h r g tf ta pf na ma wa cf ca ef ea xf xa]) (pr := []) (pcs := [wdP cs h r g tf ta (upd pf 11 z384) na ma wa cf ca ef ea xf xa]) (As := []) (rest := []) (c_mp_name l D cs h r g tf ta na ma wa cf ca ef ea xf xa (upd pf 11 z384)   (show 0 ≤ z384.toInt from by omega) (show z384.toInt < (tf 6).toInt from by omega) (show (tf 6).toInt ≤ 2049 from by omega) hlf htk) S hT hw (oX_call (P := (fun A U H => (oN A U H) ∧ (oP A g U H))) (pr := []) (oG_and oG_N oG_P) hw hA ⟨hN, hP⟩) (px_recv hT hw 0 0 rfl rfl rfl) m12_2 m11_239 m12_1 ms_9_2 m1_21 q_Mpg_name ⟨show 7 + 1 ≤ (8 * 61 + 32) from by omega, show 8 + (1 + 11) + 150 ≤ (220 * 61 + 1440) from by omega⟩ hl.1 rfl (Nat.le_of_ble_eq_true rfl) d_Mpg_piece_103 ⟨Nat.le_of_ble_eq_true rfl, Nat.le_of_ble_eq_true rfl⟩ hne hlk hA hAe (fun o t h => Or.inr h) ?_ (fun v388 p387 H locs hp387 hw => ?_)
                · exact fun p1 H1 locs1 hp hw => by obtain ⟨pq1, pq2, pq3, pq4, rfl, hq1, hq2⟩ := hp; exact ⟨_, ⟨pq1, pq2, pq3, pq4, rfl, hq1, hq2⟩, hw⟩
                obtain ⟨pf386, rfl, e389, e390, e391, e392, e393, e394, e395, e396, e397, e398⟩ := hp387
                have e389 : v388.toInt = z384.toInt := e389
                have e390 : SoIs ta v388 1 := e390
                have e391 : (pf386 11).toInt = z384.toInt + 1 := e391
                have e392 : (pf386 11).toInt < (tf 6).toInt := e392
                have e393 : bp ta z384 + 1 ≤ bp ta (pf386 11) := e393
                have e394 : (pf386 12).toInt = (pf 12).toInt := e394
                have e395 : (pf386 13).toInt = (pf 13).toInt := e395
                have e396 : (pf386 24).toInt = (pf 24).toInt := e396
                have e397 : (pf386 25).toInt = (pf 25).toInt := e397
                have e398 : (pf386 26).toInt = (pf 26).toInt := e398
                have hw : pw D A s.heap H locs [wdP cs h r g tf ta pf386 na ma wa cf ca ef ea xf xa] := hw
                have lv388 := Int32.le_toInt v388
                have uv388 := Int32.toInt_lt v388
                refine lv_istore_n (lv' := [(3, .int v388), (2, .int 0), (1, .int z247), (0, .ref h)]) S.x S.b d_Mpg_piece_106 rfl hl (by decide) rfl (fun ls hl => ?_)
                refine lv_aload_n S.x S.b d_Mpg_piece_107 rfl (lv_at hl 3 rfl) ?_
                refine lv_aload_n S.x S.b d_Mpg_piece_108 rfl (lv_at hl 3 rfl) ?_
                obtain ⟨sk399, hRsk399, st400, sb401, hSsk399⟩ := oP_lit hP (k := 87) (tx := "(") (n := 1) (List.mem_of_getElem? (i := 35) rfl)
                refine va_ldcS S.x S.b S.own hRsk399 d_Mpg_piece_109 ?_
                refine px_calli (pr := []) (px_runV (As := [.ref sk399]) (rest := [.ref h]) S (c_mp_is l D cs sk399 1 h r g tf ta pf386 na ma wa cf ca ef ea xf xa   (show 0 ≤ (pf386 11).toInt from by omega) (show (pf386 11).toInt < (tf 6).toInt from by omega) (show (tf 6).toInt ≤ 2049 from by omega) (show 1 ≤ 100 from by omega) htk _) hT (pr := []) (pcs := [wdP cs h r g tf ta pf386 na ma wa cf ca ef ea xf xa]) hw (oX_call (P := (fun A U H => (oP A g U H) ∧ (StS A sk399 1 U H))) (pr := []) (oG_and oG_P oG_Q) hw hA ⟨hP, ⟨_, _, hSsk399⟩⟩) (px_recv hT hw 0 0 rfl rfl rfl) m11_217 m11_214 m11_216 ms_8_14 m1_21 q_Mpg_is ⟨show 3 + 1 ≤ (8 * 61 + 32) from by omega, show 8 + (2 + 11) + 120 ≤ (220 * 61 + 1440) from by omega⟩ hl.1 rfl (Nat.le_of_ble_eq_true rfl) d_Mpg_piece_111 ⟨Nat.le_of_ble_eq_true rfl, Nat.le_of_ble_eq_true rfl⟩) hw hA (fun v403 p402 H locs hp402 hw => ?_)
                obtain ⟨rfl, e404, e405⟩ := hp402
                have e404 := z_rng e404
                have e405 : v403.toInt = 1 → (pf386 11).toInt + 1 < (tf 6).toInt ∧ so ta (pf386 11) = 5 := e405
                have hw : pw D A s.heap H locs [wdP cs h r g tf ta pf386 na ma wa cf ca ef ea xf xa] := hw
                have lv403 := Int32.le_toInt v403
                have uv403 := Int32.toInt_lt v403
                refine th_callv (ps0 := [wdP cs h r g tf ta pf na ma wa cf ca ef ea xf xa]) (pr := [wdP cs h r g tf ta pf386 na ma wa cf ca ef ea xf xa]) (pcs := []) (As := [.int v403]) (rest := []) (c_mp_need l hlf D cs h v403) S hT hw (oX_call (P := (fun A U H => (oN A U H))) (pr := [wdP cs h r g tf ta pf386 na ma wa cf ca ef ea xf xa]) oG_N hw hA hN) (px_recv hT hw 0 0 rfl rfl rfl) m11_233 m11_230 m11_232 ms_9_0 m1_21 q_Mpg_need ⟨show 6 + 1 ≤ (8 * 61 + 32) from by omega, show 8 + (2 + 11) + 100 ≤ (220 * 61 + 1440) from by omega⟩ hl.1 rfl (Nat.le_of_ble_eq_true rfl) d_Mpg_piece_114 ⟨Nat.le_of_ble_eq_true rfl, Nat.le_of_ble_eq_true rfl⟩ hne hlk hA hAe (fun o t h => Or.inr h) ?_ (fun p406 H locs hp406 hw => ?_)
                · exact fun p1 H1 locs1 hp hw => by subst hp; exact ⟨_, ⟨pf386, na, ma, wa, rfl, by omega, by omega⟩, hw.sub [0] rfl rfl⟩
                obtain ⟨rfl, hndp406⟩ := hp406
                have hndp406 : ¬ v403.toInt = 0 := hndp406
                have hw : pw D A s.heap H locs [wdP cs h r g tf ta pf386 na ma wa cf ca ef ea xf xa] := hw
                refine lv_aload_n S.x S.b d_Mpg_piece_117 rfl (lv_at hl 3 rfl) ?_
                refine lv_iload_n S.x S.b d_Mpg_piece_118 rfl (lv_at hl 2 rfl) ?_
                refine lv_iload_n S.x S.b d_Mpg_piece_119 rfl (lv_at hl 0 rfl) ?_
                refine th_callv (ps0 := [wdP cs h r g tf ta pf na ma wa cf ca ef ea xf xa]) (pr := []) (pcs := [wdP cs h r g tf ta pf386 na ma wa cf ca ef ea xf xa]) (As := [.int z247, .int v388]) (rest := []) (c_mp_functionText l D cs h r g tf ta cf ca ef ea xf xa pf386 na ma wa z247 v388  (show 0 ≤ (pf386 11).toInt from by omega) (show (pf386 11).toInt < (tf 6).toInt from by omega) (show (tf 6).toInt ≤ 2049 from by omega) (show (pf386 12).toInt = 0 from by omega) (show 0 ≤ (pf386 13).toInt from by omega) (show (pf386 13).toInt ≤ (pf386 11).toInt + 10 from by omega) (show (pf386 26).toInt = 0 from by omega) (show -1 ≤ (pf386 25).toInt from by omega) (show (pf386 25).toInt < (pf386 13).toInt from by omega) (show 0 ≤ z247.toInt from by omega) (show z247.toInt ≤ 2 from by omega) (show 0 ≤ v388.toInt from by omega) (show v388.toInt < (tf 6).toInt from by omega) (show 4 ≤ bp ta (pf386 11) from by omega) hlf htk (by assumption) (RzV.le (rz_eq hzg (by omega) (by omega)) (by omega) (by omega) (by omega) (by omega))) S hT hw (oX_call (P := (fun A U H => (oN A U H) ∧ (oP A g U H))) (pr := []) (oG_and oG_N oG_P) hw hA ⟨hN, hP⟩) (px_recv hT hw 0 0 rfl rfl rfl) m12_89 m12_86 m12_88 ms_10_7 m1_21 q_Mpg_functionText ⟨show (8 * 61 + 30) + 1 ≤ (8 * 61 + 32) from by omega, show 8 + (6 + 11) + (220 * 61 + 1360) ≤ (220 * 61 + 1440) from by omega⟩ hl.1 rfl (Nat.le_of_ble_eq_true rfl) d_Mpg_piece_120 ⟨Nat.le_of_ble_eq_true rfl, Nat.le_of_ble_eq_true rfl⟩ hne hlk hA hAe (fun o t h => Or.inr h) ?_ (fun p416 H locs hp416 hw => ?_)
                · exact fun p1 H1 locs1 hp hw => by obtain ⟨pq1, pq2, pq3, pq4, rfl, hq1, hq2⟩ := hp; exact ⟨_, ⟨pq1, pq2, pq3, pq4, rfl, hq1, hq2⟩, hw⟩
                obtain ⟨pf412, na413, ma414, wa415, rfl, e418, e419, e420, e421, e422, e423, e424, e425, e426, e427⟩ := hp416
                have e418 : (pf386 11).toInt + 1 ≤ (pf412 11).toInt := e418
                have e419 : (pf412 11).toInt < (tf 6).toInt := e419
                have e420 : (pf386 13).toInt ≤ (pf412 13).toInt := e420
                have e421 : (pf412 13).toInt - (pf386 13).toInt ≤ (pf412 11).toInt - (pf386 11).toInt := e421
                have e422 : bp ta (pf386 11) + 1 ≤ bp ta (pf412 11) := e422
                have e423 : (pf412 12).toInt = 0 := e423
                have e424 : (pf412 26).toInt = 0 := e424
                have e425 : -1 ≤ (pf412 25).toInt := e425
                have e426 : (pf412 25).toInt < (pf412 13).toInt := e426
                have e427 : RzG ta (tf 6).toInt na413 ma414 (pf412 24) (pf412 25) 0 (pf412 13).toInt (3 * bp ta (pf412 11)) 200 := e427
                have hzg := e427
                have hw : pw D A s.heap H locs [wdP cs h r g tf ta pf412 na413 ma414 wa415 cf ca ef ea xf xa] := hw
                exact th_vret S hr hlk hAe hw (⟨pf412, na413, ma414, wa415, rfl, (show (pf 11).toInt + 1 ≤ (pf412 11).toInt from by omega), (show (pf412 11).toInt < (tf 6).toInt from by omega), (show (pf 13).toInt ≤ (pf412 13).toInt from by omega), (show (pf412 13).toInt - (pf 13).toInt ≤ (pf412 11).toInt - (pf 11).toInt from by omega), (show bp ta (pf 11) + 1 ≤ bp ta (pf412 11) from by omega), (show (pf412 12).toInt = 0 from by omega), (show (pf412 26).toInt = 0 from by omega), (show -1 ≤ (pf412 25).toInt from by omega), (show (pf412 25).toInt < (pf412 13).toInt from by omega), (show RzG ta (tf 6).toInt na413 ma414 (pf412 24) (pf412 25) 0 (pf412 13).toInt (3 * bp ta (pf412 11)) 200 from (RzV.le (rz_eq hzg (by omega) (by omega)) (by omega) (by omega) (by omega) (by omega)))⟩) d_Mpg_piece_123
          · have nc344 : ¬ v341.toInt = (0 : Int) := mt (i_eq (x := v341) (y := 0)).mpr c344
            refine lv_iconst (v := 1) S.x S.b d_Mpg_piece_77 (by decide) ?_
            refine lv_goto (tgt := 82) S.x S.b d_Mpg_piece_78 (by decide) ?_
            refine lv_istore_n (lv' := [(2, .int 1), (1, .int z247), (0, .ref h)]) S.x S.b d_Mpg_piece_82 rfl hl (by decide) rfl (fun ls hl => ?_)
            refine lv_iload_n S.x S.b d_Mpg_piece_83 rfl (lv_at hl 0 rfl) ?_
            refine lv_if_ne (tgt := 92) S.x S.b d_Mpg_piece_84 (by decide) (fun c428 => ?_) (fun c428 => ?_)
            ·
              refine lv_aload_n S.x S.b d_Mpg_piece_92 rfl (lv_at hl 2 rfl) ?_
              refine lv_dup S.x S.b d_Mpg_piece_93 rfl ?_
              refine px_get S k_Mpg hT hw 0 0 11 (v := .int (pf 11)) rfl rfl rfl (by decide) m9_235 d_Mpg_piece_94 ?_
              refine lv_iconst (v := 1) S.x S.b d_Mpg_piece_97 (by decide) ?_
              refine lv_iadd S.x S.b d_Mpg_piece_98 ?_
              have lr429 := Int32.le_toInt (pf 11)
              have ur429 := Int32.toInt_lt (pf 11)
              refine lv_topi (fun z430 ez430 => ?_)
              have tz430 : z430.toInt = ((pf 11).toInt + (1 : Int) + 2147483648) % 4294967296 - 2147483648 := by rw [ez430]; exact i_add (pf 11) 1
              have lz430 := Int32.le_toInt z430
              have uz430 := Int32.toInt_lt z430
              try replace tz430 : z430.toInt = (pf 11).toInt + (1 : Int) := by omega
              have hnx98 := tk_n htk (x := (pf 11)) (y := z430) (by omega) (by omega) (by omega)
              refine px_put S k_Mpg hT hw 0 0 11 rfl rfl (by decide) m9_235 rfl rfl rfl (Nat.le_of_ble_eq_true rfl) d_Mpg_piece_99 (w' := wdP cs h r g tf ta (upd pf 11 z430) na ma wa cf ca ef ea xf xa) (ps' := [wdP cs h r g tf ta (upd pf 11 z430) na ma wa cf ca ef ea xf xa]) rfl rfl (fun H locs hw => ?_)
              refine lv_aload_n S.x S.b d_Mpg_piece_102 rfl (lv_at hl 2 rfl) ?_
              refine th_calli (ps0 := [wdP cs h r g tf ta pf na ma wa cf ca ef ea xf xa]) (pr := []) (pcs := [wdP cs h r g tf ta (upd pf 11 z430) na ma wa cf ca ef ea xf xa]) (As := []) (rest := []) (c_mp_name l D cs h r g tf ta na ma wa cf ca ef ea xf xa (upd pf 11 z430)   (show 0 ≤ z430.toInt from by omega) (show z430.toInt < (tf 6).toInt from by omega) (show (tf 6).toInt ≤ 2049 from by omega) hlf htk) S hT hw (oX_call (P := (fun A U H => (oN A U H) ∧ (oP A g U H))) (pr := []) (oG_and oG_N oG_P) hw hA ⟨hN, hP⟩) (px_recv hT hw 0 0 rfl rfl rfl) m12_2 m11_239 m12_1 ms_9_2 m1_21 q_Mpg_name ⟨show 7 + 1 ≤ (8 * 61 + 32) from by omega, show 8 + (1 + 11) + 150 ≤ (220 * 61 + 1440) from by omega⟩ hl.1 rfl (Nat.le_of_ble_eq_true rfl) d_Mpg_piece_103 ⟨Nat.le_of_ble_eq_true rfl, Nat.le_of_ble_eq_true rfl⟩ hne hlk hA hAe (fun o t h => Or.inr h) ?_ (fun v434 p433 H locs hp433 hw => ?_)
              · exact fun p1 H1 locs1 hp hw => by obtain ⟨pq1, pq2, pq3, pq4, rfl, hq1, hq2⟩ := hp; exact ⟨_, ⟨pq1, pq2, pq3, pq4, rfl, hq1, hq2⟩, hw⟩
              obtain ⟨pf432, rfl, e435, e436, e437, e438, e439, e440, e441, e442, e443, e444⟩ := hp433
              have e435 : v434.toInt = z430.toInt := e435
              have e436 : SoIs ta v434 1 := e436
              have e437 : (pf432 11).toInt = z430.toInt + 1 := e437
              have e438 : (pf432 11).toInt < (tf 6).toInt := e438
              have e439 : bp ta z430 + 1 ≤ bp ta (pf432 11) := e439
              have e440 : (pf432 12).toInt = (pf 12).toInt := e440
              have e441 : (pf432 13).toInt = (pf 13).toInt := e441
              have e442 : (pf432 24).toInt = (pf 24).toInt := e442
              have e443 : (pf432 25).toInt = (pf 25).toInt := e443
              have e444 : (pf432 26).toInt = (pf 26).toInt := e444
              have hw : pw D A s.heap H locs [wdP cs h r g tf ta pf432 na ma wa cf ca ef ea xf xa] := hw
              have lv434 := Int32.le_toInt v434
              have uv434 := Int32.toInt_lt v434
              refine lv_istore_n (lv' := [(3, .int v434), (2, .int 1), (1, .int z247), (0, .ref h)]) S.x S.b d_Mpg_piece_106 rfl hl (by decide) rfl (fun ls hl => ?_)
              refine lv_aload_n S.x S.b d_Mpg_piece_107 rfl (lv_at hl 3 rfl) ?_
              refine lv_aload_n S.x S.b d_Mpg_piece_108 rfl (lv_at hl 3 rfl) ?_
              obtain ⟨sk445, hRsk445, st446, sb447, hSsk445⟩ := oP_lit hP (k := 87) (tx := "(") (n := 1) (List.mem_of_getElem? (i := 35) rfl)
              refine va_ldcS S.x S.b S.own hRsk445 d_Mpg_piece_109 ?_
              refine px_calli (pr := []) (px_runV (As := [.ref sk445]) (rest := [.ref h]) S (c_mp_is l D cs sk445 1 h r g tf ta pf432 na ma wa cf ca ef ea xf xa   (show 0 ≤ (pf432 11).toInt from by omega) (show (pf432 11).toInt < (tf 6).toInt from by omega) (show (tf 6).toInt ≤ 2049 from by omega) (show 1 ≤ 100 from by omega) htk _) hT (pr := []) (pcs := [wdP cs h r g tf ta pf432 na ma wa cf ca ef ea xf xa]) hw (oX_call (P := (fun A U H => (oP A g U H) ∧ (StS A sk445 1 U H))) (pr := []) (oG_and oG_P oG_Q) hw hA ⟨hP, ⟨_, _, hSsk445⟩⟩) (px_recv hT hw 0 0 rfl rfl rfl) m11_217 m11_214 m11_216 ms_8_14 m1_21 q_Mpg_is ⟨show 3 + 1 ≤ (8 * 61 + 32) from by omega, show 8 + (2 + 11) + 120 ≤ (220 * 61 + 1440) from by omega⟩ hl.1 rfl (Nat.le_of_ble_eq_true rfl) d_Mpg_piece_111 ⟨Nat.le_of_ble_eq_true rfl, Nat.le_of_ble_eq_true rfl⟩) hw hA (fun v449 p448 H locs hp448 hw => ?_)
              obtain ⟨rfl, e450, e451⟩ := hp448
              have e450 := z_rng e450
              have e451 : v449.toInt = 1 → (pf432 11).toInt + 1 < (tf 6).toInt ∧ so ta (pf432 11) = 5 := e451
              have hw : pw D A s.heap H locs [wdP cs h r g tf ta pf432 na ma wa cf ca ef ea xf xa] := hw
              have lv449 := Int32.le_toInt v449
              have uv449 := Int32.toInt_lt v449
              refine th_callv (ps0 := [wdP cs h r g tf ta pf na ma wa cf ca ef ea xf xa]) (pr := [wdP cs h r g tf ta pf432 na ma wa cf ca ef ea xf xa]) (pcs := []) (As := [.int v449]) (rest := []) (c_mp_need l hlf D cs h v449) S hT hw (oX_call (P := (fun A U H => (oN A U H))) (pr := [wdP cs h r g tf ta pf432 na ma wa cf ca ef ea xf xa]) oG_N hw hA hN) (px_recv hT hw 0 0 rfl rfl rfl) m11_233 m11_230 m11_232 ms_9_0 m1_21 q_Mpg_need ⟨show 6 + 1 ≤ (8 * 61 + 32) from by omega, show 8 + (2 + 11) + 100 ≤ (220 * 61 + 1440) from by omega⟩ hl.1 rfl (Nat.le_of_ble_eq_true rfl) d_Mpg_piece_114 ⟨Nat.le_of_ble_eq_true rfl, Nat.le_of_ble_eq_true rfl⟩ hne hlk hA hAe (fun o t h => Or.inr h) ?_ (fun p452 H locs hp452 hw => ?_)
              · exact fun p1 H1 locs1 hp hw => by subst hp; exact ⟨_, ⟨pf432, na, ma, wa, rfl, by omega, by omega⟩, hw.sub [0] rfl rfl⟩
              obtain ⟨rfl, hndp452⟩ := hp452
              have hndp452 : ¬ v449.toInt = 0 := hndp452
              have hw : pw D A s.heap H locs [wdP cs h r g tf ta pf432 na ma wa cf ca ef ea xf xa] := hw
              refine lv_aload_n S.x S.b d_Mpg_piece_117 rfl (lv_at hl 3 rfl) ?_
              refine lv_iload_n S.x S.b d_Mpg_piece_118 rfl (lv_at hl 2 rfl) ?_
              refine lv_iload_n S.x S.b d_Mpg_piece_119 rfl (lv_at hl 0 rfl) ?_
              refine th_callv (ps0 := [wdP cs h r g tf ta pf na ma wa cf ca ef ea xf xa]) (pr := []) (pcs := [wdP cs h r g tf ta pf432 na ma wa cf ca ef ea xf xa]) (As := [.int z247, .int v434]) (rest := []) (c_mp_functionText l D cs h r g tf ta cf ca ef ea xf xa pf432 na ma wa z247 v434  (show 0 ≤ (pf432 11).toInt from by omega) (show (pf432 11).toInt < (tf 6).toInt from by omega) (show (tf 6).toInt ≤ 2049 from by omega) (show (pf432 12).toInt = 0 from by omega) (show 0 ≤ (pf432 13).toInt from by omega) (show (pf432 13).toInt ≤ (pf432 11).toInt + 10 from by omega) (show (pf432 26).toInt = 0 from by omega) (show -1 ≤ (pf432 25).toInt from by omega) (show (pf432 25).toInt < (pf432 13).toInt from by omega) (show 0 ≤ z247.toInt from by omega) (show z247.toInt ≤ 2 from by omega) (show 0 ≤ v434.toInt from by omega) (show v434.toInt < (tf 6).toInt from by omega) (show 4 ≤ bp ta (pf432 11) from by omega) hlf htk (by assumption) (RzV.le (rz_eq hzg (by omega) (by omega)) (by omega) (by omega) (by omega) (by omega))) S hT hw (oX_call (P := (fun A U H => (oN A U H) ∧ (oP A g U H))) (pr := []) (oG_and oG_N oG_P) hw hA ⟨hN, hP⟩) (px_recv hT hw 0 0 rfl rfl rfl) m12_89 m12_86 m12_88 ms_10_7 m1_21 q_Mpg_functionText ⟨show (8 * 61 + 30) + 1 ≤ (8 * 61 + 32) from by omega, show 8 + (6 + 11) + (220 * 61 + 1360) ≤ (220 * 61 + 1440) from by omega⟩ hl.1 rfl (Nat.le_of_ble_eq_true rfl) d_Mpg_piece_120 ⟨Nat.le_of_ble_eq_true rfl, Nat.le_of_ble_eq_true rfl⟩ hne hlk hA hAe (fun o t h => Or.inr h) ?_ (fun p462 H locs hp462 hw => ?_)
              · exact fun p1 H1 locs1 hp hw => by obtain ⟨pq1, pq2, pq3, pq4, rfl, hq1, hq2⟩ := hp; exact ⟨_, ⟨pq1, pq2, pq3, pq4, rfl, hq1, hq2⟩, hw⟩
              obtain ⟨pf458, na459, ma460, wa461, rfl, e464, e465, e466, e467, e468, e469, e470, e471, e472, e473⟩ := hp462
              have e464 : (pf432 11).toInt + 1 ≤ (pf458 11).toInt := e464
              have e465 : (pf458 11).toInt < (tf 6).toInt := e465
              have e466 : (pf432 13).toInt ≤ (pf458 13).toInt := e466
              have e467 : (pf458 13).toInt - (pf432 13).toInt ≤ (pf458 11).toInt - (pf432 11).toInt := e467
              have e468 : bp ta (pf432 11) + 1 ≤ bp ta (pf458 11) := e468
              have e469 : (pf458 12).toInt = 0 := e469
              have e470 : (pf458 26).toInt = 0 := e470
              have e471 : -1 ≤ (pf458 25).toInt := e471
              have e472 : (pf458 25).toInt < (pf458 13).toInt := e472
              have e473 : RzG ta (tf 6).toInt na459 ma460 (pf458 24) (pf458 25) 0 (pf458 13).toInt (3 * bp ta (pf458 11)) 200 := e473
              have hzg := e473
              have hw : pw D A s.heap H locs [wdP cs h r g tf ta pf458 na459 ma460 wa461 cf ca ef ea xf xa] := hw
              exact th_vret S hr hlk hAe hw (⟨pf458, na459, ma460, wa461, rfl, (show (pf 11).toInt + 1 ≤ (pf458 11).toInt from by omega), (show (pf458 11).toInt < (tf 6).toInt from by omega), (show (pf 13).toInt ≤ (pf458 13).toInt from by omega), (show (pf458 13).toInt - (pf 13).toInt ≤ (pf458 11).toInt - (pf 11).toInt from by omega), (show bp ta (pf 11) + 1 ≤ bp ta (pf458 11) from by omega), (show (pf458 12).toInt = 0 from by omega), (show (pf458 26).toInt = 0 from by omega), (show -1 ≤ (pf458 25).toInt from by omega), (show (pf458 25).toInt < (pf458 13).toInt from by omega), (show RzG ta (tf 6).toInt na459 ma460 (pf458 24) (pf458 25) 0 (pf458 13).toInt (3 * bp ta (pf458 11)) 200 from (RzV.le (rz_eq hzg (by omega) (by omega)) (by omega) (by omega) (by omega) (by omega)))⟩) d_Mpg_piece_123
            · exact absurd c428 (by decide)
      · have nc244 : ¬ v241.toInt = (0 : Int) := mt (i_eq (x := v241) (y := 0)).mpr c244
        refine lv_iconst (v := 1) S.x S.b d_Mpg_piece_29 (by decide) ?_
        refine lv_goto (tgt := 34) S.x S.b d_Mpg_piece_30 (by decide) ?_
        refine th_callv (ps0 := [wdP cs h r g tf ta pf na ma wa cf ca ef ea xf xa]) (pr := [wdP cs h r g tf ta pf na ma wa cf ca ef ea xf xa]) (pcs := []) (As := [.int 1]) (rest := []) (c_mp_need l hlf D cs h 1) S hT hw (oX_call (P := (fun A U H => (oN A U H))) (pr := [wdP cs h r g tf ta pf na ma wa cf ca ef ea xf xa]) oG_N hw hA hN) (px_recv hT hw 0 0 rfl rfl rfl) m11_233 m11_230 m11_232 ms_9_0 m1_21 q_Mpg_need ⟨show 6 + 1 ≤ (8 * 61 + 32) from by omega, show 8 + (2 + 11) + 100 ≤ (220 * 61 + 1440) from by omega⟩ hl.1 rfl (Nat.le_of_ble_eq_true rfl) d_Mpg_piece_34 ⟨Nat.le_of_ble_eq_true rfl, Nat.le_of_ble_eq_true rfl⟩ hne hlk hA hAe (fun o t h => Or.inr h) ?_ (fun p474 H locs hp474 hw => ?_)
        · exact fun p1 H1 locs1 hp hw => by subst hp; exact ⟨_, ⟨pf, na, ma, wa, rfl, by omega, by omega⟩, hw.sub [0] rfl rfl⟩
        obtain ⟨rfl, hndp474⟩ := hp474
        have hndp474 : ¬ (1 : Int) = 0 := hndp474
        have hw : pw D A s.heap H locs [wdP cs h r g tf ta pf na ma wa cf ca ef ea xf xa] := hw
        refine lv_aload_n S.x S.b d_Mpg_piece_37 rfl (lv_at hl 0 rfl) ?_
        refine px_get S k_Mpg hT hw 0 0 10 (v := .ref (r 10)) rfl rfl rfl (by decide) m9_234 d_Mpg_piece_38 ?_
        refine lv_aload_n S.x S.b d_Mpg_piece_41 rfl (lv_at hl 0 rfl) ?_
        refine px_get S k_Mpg hT hw 0 0 11 (v := .int (pf 11)) rfl rfl rfl (by decide) m9_235 d_Mpg_piece_42 ?_
        refine px_iald S hT hw 0 9 (n := 2060) (f := (ta 10)) rfl gp_10 (x := (pf 11)) (vp_in_iff.mpr (by constructor <;> omega)) d_Mpg_piece_45 ?_
        refine lv_topi (fun z476 ez476 => ?_)
        have lz476 := Int32.le_toInt z476
        have uz476 := Int32.toInt_lt z476
        have rz476 : z476.toInt = wh ta (pf 11) := by rw [ez476]; rfl
        have hk3 := tk_k3 htk (x := (pf 11)) (by omega) (by omega) (by omega) (by omega)
        refine lv_istore_n (lv' := [(1, .int z476), (0, .ref h)]) S.x S.b d_Mpg_piece_46 rfl hl (by decide) rfl (fun ls hl => ?_)
        refine lv_aload_n S.x S.b d_Mpg_piece_47 rfl (lv_at hl 1 rfl) ?_
        refine px_get S k_Mpg hT hw 0 0 9 (v := .ref (r 9)) rfl rfl rfl (by decide) m9_233 d_Mpg_piece_48 ?_
        refine lv_aload_n S.x S.b d_Mpg_piece_51 rfl (lv_at hl 1 rfl) ?_
        refine px_get S k_Mpg hT hw 0 0 11 (v := .int (pf 11)) rfl rfl rfl (by decide) m9_235 d_Mpg_piece_52 ?_
        refine lv_iconst (v := 1) S.x S.b d_Mpg_piece_55 (by decide) ?_
        refine lv_iadd S.x S.b d_Mpg_piece_56 ?_
        have lr477 := Int32.le_toInt (pf 11)
        have ur477 := Int32.toInt_lt (pf 11)
        refine lv_topi (fun z478 ez478 => ?_)
        have tz478 : z478.toInt = ((pf 11).toInt + (1 : Int) + 2147483648) % 4294967296 - 2147483648 := by rw [ez478]; exact i_add (pf 11) 1
        have lz478 := Int32.le_toInt z478
        have uz478 := Int32.toInt_lt z478
        try replace tz478 : z478.toInt = (pf 11).toInt + (1 : Int) := by omega
        refine px_bald S hT hw 0 8 (n := 2060) (f := (ta 9)) rfl gp_9 (x := z478) (vp_in_iff.mpr (by constructor <;> omega)) d_Mpg_piece_57 ?_
        refine lv_topi (fun z479 ez479 => ?_)
        have lz479 := Int32.le_toInt z479
        have uz479 := Int32.toInt_lt z479
        have rz479 := tk_s htk (x := z478) (by omega) (by omega) ez479
        refine lv_iconst (v := 1) S.x S.b d_Mpg_piece_58 (by decide) ?_
        refine lv_icmp_ne (tgt := 81) S.x S.b d_Mpg_piece_59 (by decide) (fun c480 => ?_) (fun c480 => ?_)
        · have nc480 : ¬ z479.toInt = (1 : Int) := mt (i_eq (x := z479) (y := 1)).mpr c480
          refine lv_iconst (v := 0) S.x S.b d_Mpg_piece_81 (by decide) ?_
          refine lv_istore_n (lv' := [(2, .int 0), (1, .int z476), (0, .ref h)]) S.x S.b d_Mpg_piece_82 rfl hl (by decide) rfl (fun ls hl => ?_)
          refine lv_iload_n S.x S.b d_Mpg_piece_83 rfl (lv_at hl 0 rfl) ?_
          refine lv_if_ne (tgt := 92) S.x S.b d_Mpg_piece_84 (by decide) (fun c481 => ?_) (fun c481 => ?_)
          · exact absurd c481 (by decide)
          ·
            refine lv_iload_n S.x S.b d_Mpg_piece_87 rfl (lv_at hl 1 rfl) ?_
            refine lv_iconst (v := 2) S.x S.b d_Mpg_piece_88 (by decide) ?_
            refine lv_icmp_ne (tgt := 124) S.x S.b d_Mpg_piece_89 (by decide) (fun c482 => ?_) (fun c482 => ?_)
            · have nc482 : ¬ z476.toInt = (2 : Int) := mt (i_eq (x := z476) (y := 2)).mpr c482
              refine lv_aload_n S.x S.b d_Mpg_piece_124 rfl (lv_at hl 2 rfl) ?_
              refine lv_aload_n S.x S.b d_Mpg_piece_125 rfl (lv_at hl 2 rfl) ?_
              refine th_calli (ps0 := [wdP cs h r g tf ta pf na ma wa cf ca ef ea xf xa]) (pr := []) (pcs := [wdP cs h r g tf ta pf na ma wa cf ca ef ea xf xa]) (As := []) (rest := [.ref h]) (c_mp_declaration l D cs h r g tf ta cf ca ef ea xf xa pf na ma wa  lv (show 0 ≤ (pf 11).toInt from by omega) (show (pf 11).toInt < (tf 6).toInt from by omega) (show (tf 6).toInt ≤ 2049 from by omega) (show 0 ≤ (pf 12).toInt from by omega) (show (pf 12).toInt ≤ 60 from by omega) (show 0 ≤ (pf 13).toInt from by omega) (show (pf 13).toInt ≤ (pf 11).toInt + 10 from by omega) (show 0 ≤ (pf 26).toInt from by omega) (show (pf 26).toInt ≤ (pf 12).toInt from by omega) (show 61 ≤ (pf 12).toInt + (lv : Int) from by omega) (show lv ≤ 61 from by omega) (show (pf 11).toInt + 1 < (tf 6).toInt from by omega) (show so ta (pf 11) = 2 from by omega) (show 0 ≤ wh ta (pf 11) from by omega) (show wh ta (pf 11) ≤ 1 from by omega) hlf htk) S hT hw (oX_call (P := (fun A U H => (oN A U H) ∧ (oP A g U H))) (pr := []) (oG_and oG_N oG_P) hw hA ⟨hN, hP⟩) (px_recv hT hw 0 0 rfl rfl rfl) m12_105 m12_102 m12_104 ms_10_11 m1_21 q_Mpg_declaration ⟨show (8 * lv + 25) + 1 ≤ (8 * 61 + 32) from by omega, show 8 + (2 + 11) + (220 * lv + 1160) ≤ (220 * 61 + 1440) from by omega⟩ hl.1 rfl (Nat.le_of_ble_eq_true rfl) d_Mpg_piece_126 ⟨Nat.le_of_ble_eq_true rfl, Nat.le_of_ble_eq_true rfl⟩ hne hlk hA hAe (fun o t h => Or.inr h) ?_ (fun v492 p491 H locs hp491 hw => ?_)
              · exact fun p1 H1 locs1 hp hw => by obtain ⟨pq1, pq2, pq3, pq4, rfl, hq1, hq2⟩ := hp; exact ⟨_, ⟨pq1, pq2, pq3, pq4, rfl, hq1, hq2⟩, hw⟩
              obtain ⟨pf487, na488, ma489, wa490, rfl, e493, e494, e495, e496, e497, e498, e499, e500, e501, e502, e503, e504, e505⟩ := hp491
              have e493 : (pf 11).toInt + 1 ≤ (pf487 11).toInt := e493
              have e494 : (pf487 11).toInt < (tf 6).toInt := e494
              have e495 : (pf 13).toInt + 1 ≤ (pf487 13).toInt := e495
              have e496 : (pf487 13).toInt - (pf 13).toInt ≤ (pf487 11).toInt - (pf 11).toInt := e496
              have e497 : bp ta (pf 11) + 1 ≤ bp ta (pf487 11) := e497
              have e498 : (pf487 12).toInt = (pf 12).toInt := e498
              have e499 : (pf487 24).toInt = (pf 24).toInt := e499
              have e500 : (pf487 25).toInt = (pf 25).toInt := e500
              have e501 : (pf487 26).toInt = (pf 26).toInt := e501
              have e502 : FrB (pf 13).toInt na ma na488 ma489 := e502
              have hzg := hzg.ag fg_ok (FrB.ag e502 (by omega))
              have hfb := hfb.tr e502 (by omega)
              have e503 : FrW (pf 26).toInt wa wa490 := e503
              have hfw := hfw.tr e503 (by omega)
              have e504 : VlS ta (tf 6).toInt na488 ma489 v492 (pf 13).toInt (pf487 13).toInt (3 * (bp ta (pf487 11) - bp ta (pf 11))) (200 - (pf 12).toInt) := e504
              have hv_v492 := e504
              have hn_hv_v492 := hv_v492.num fs_ok
              have e505 : DcN na488 v492 := e505
              have hf_14_v492 : na488 14 v492.toNatClampNeg = 23 := e505
              have hw : pw D A s.heap H locs [wdP cs h r g tf ta pf487 na488 ma489 wa490 cf ca ef ea xf xa] := hw
              have lv492 := Int32.le_toInt v492
              have uv492 := Int32.toInt_lt v492
              refine px_callv (pr := []) (px_runV (As := [.int v492]) (rest := []) S (c_mp_add l D cs h r g tf ta ma489 wa490 cf ca ef ea xf xa pf487 na488 v492  (show (pf487 25).toInt < 2100 from by omega) htk _) hT (pr := []) (pcs := [wdP cs h r g tf ta pf487 na488 ma489 wa490 cf ca ef ea xf xa]) hw px_X.tt (px_recv hT hw 0 0 rfl rfl rfl) m12_81 m12_78 m12_80 ms_10_5 m1_21 q_Mpg_add ⟨show 1 + 1 ≤ (8 * 61 + 32) from by omega, show 8 + (2 + 11) + 30 ≤ (220 * 61 + 1440) from by omega⟩ hl.1 rfl (Nat.le_of_ble_eq_true rfl) d_Mpg_piece_129 ⟨Nat.le_of_ble_eq_true rfl, Nat.le_of_ble_eq_true rfl⟩) hw hA (fun p510 H locs hp510 hw => ?_)
              obtain ⟨pf508, na509, rfl, e512, e513, e514, e515, e516, e517⟩ := hp510
              have e512 : (pf508 11).toInt = (pf487 11).toInt := e512
              have e513 : (pf508 12).toInt = (pf487 12).toInt := e513
              have e514 : (pf508 13).toInt = (pf487 13).toInt := e514
              have e515 : (pf508 26).toInt = (pf487 26).toInt := e515
              have e516 : (pf508 25).toInt = v492.toInt := e516
              have e517 : Hg na488 na509 (pf487 24) (pf487 25) v492 (pf508 24) := e517
              have hvg := vg_decl (VlV.le hv_v492 (Int.le_refl _) (Int.le_refl _) (Int.le_refl _) (show _ ≤ (200 : Int) from by omega)) hf_14_v492
              have hzg := Hg.row e517 fg_ok (rz_eq hzg (by omega) (by omega)) (VlV.le hvg (by omega) (Int.le_refl _) (Int.le_refl _) (by omega)) (by omega) (by omega)
              obtain ⟨qb5181, qb5182, qb5183, qb5184⟩ := tk_eq (ta := ta) (x := (pf508 11)) (y := (pf487 11)) (by omega)
              have hw : pw D A s.heap H locs [wdP cs h r g tf ta pf508 na509 ma489 wa490 cf ca ef ea xf xa] := hw
              exact th_vret S hr hlk hAe hw (⟨pf508, na509, ma489, wa490, rfl, (show (pf 11).toInt + 1 ≤ (pf508 11).toInt from by omega), (show (pf508 11).toInt < (tf 6).toInt from by omega), (show (pf 13).toInt ≤ (pf508 13).toInt from by omega), (show (pf508 13).toInt - (pf 13).toInt ≤ (pf508 11).toInt - (pf 11).toInt from by omega), (show bp ta (pf 11) + 1 ≤ bp ta (pf508 11) from by omega), (show (pf508 12).toInt = 0 from by omega), (show (pf508 26).toInt = 0 from by omega), (show -1 ≤ (pf508 25).toInt from by omega), (show (pf508 25).toInt < (pf508 13).toInt from by omega), (show RzG ta (tf 6).toInt na509 ma489 (pf508 24) (pf508 25) 0 (pf508 13).toInt (3 * bp ta (pf508 11)) 200 from (RzV.le (rz_eq (Or.inr hzg) (by omega) (by omega)) (by omega) (by omega) (by omega) (by omega)))⟩) d_Mpg_piece_132
            · have nc482 : z476.toInt = (2 : Int) := (i_eq (x := z476) (y := 2)).mp c482
              refine lv_aload_n S.x S.b d_Mpg_piece_92 rfl (lv_at hl 2 rfl) ?_
              refine lv_dup S.x S.b d_Mpg_piece_93 rfl ?_
              refine px_get S k_Mpg hT hw 0 0 11 (v := .int (pf 11)) rfl rfl rfl (by decide) m9_235 d_Mpg_piece_94 ?_
              refine lv_iconst (v := 1) S.x S.b d_Mpg_piece_97 (by decide) ?_
              refine lv_iadd S.x S.b d_Mpg_piece_98 ?_
              have lr519 := Int32.le_toInt (pf 11)
              have ur519 := Int32.toInt_lt (pf 11)
              refine lv_topi (fun z520 ez520 => ?_)
              have tz520 : z520.toInt = ((pf 11).toInt + (1 : Int) + 2147483648) % 4294967296 - 2147483648 := by rw [ez520]; exact i_add (pf 11) 1
              have lz520 := Int32.le_toInt z520
              have uz520 := Int32.toInt_lt z520
              try replace tz520 : z520.toInt = (pf 11).toInt + (1 : Int) := by omega
              have hnx98 := tk_n htk (x := (pf 11)) (y := z520) (by omega) (by omega) (by omega)
              refine px_put S k_Mpg hT hw 0 0 11 rfl rfl (by decide) m9_235 rfl rfl rfl (Nat.le_of_ble_eq_true rfl) d_Mpg_piece_99 (w' := wdP cs h r g tf ta (upd pf 11 z520) na ma wa cf ca ef ea xf xa) (ps' := [wdP cs h r g tf ta (upd pf 11 z520) na ma wa cf ca ef ea xf xa]) rfl rfl (fun H locs hw => ?_)
              refine lv_aload_n S.x S.b d_Mpg_piece_102 rfl (lv_at hl 2 rfl) ?_
              refine th_calli (ps0 := [wdP cs h r g tf ta pf na ma wa cf ca ef ea xf xa]) (pr := []) (pcs := [wdP cs h r g tf ta (upd pf 11 z520) na ma wa cf ca ef ea xf xa]) (As := []) (rest := []) (c_mp_name l D cs h r g tf ta na ma wa cf ca ef ea xf xa (upd pf 11 z520)   (show 0 ≤ z520.toInt from by omega) (show z520.toInt < (tf 6).toInt from by omega) (show (tf 6).toInt ≤ 2049 from by omega) hlf htk) S hT hw (oX_call (P := (fun A U H => (oN A U H) ∧ (oP A g U H))) (pr := []) (oG_and oG_N oG_P) hw hA ⟨hN, hP⟩) (px_recv hT hw 0 0 rfl rfl rfl) m12_2 m11_239 m12_1 ms_9_2 m1_21 q_Mpg_name ⟨show 7 + 1 ≤ (8 * 61 + 32) from by omega, show 8 + (1 + 11) + 150 ≤ (220 * 61 + 1440) from by omega⟩ hl.1 rfl (Nat.le_of_ble_eq_true rfl) d_Mpg_piece_103 ⟨Nat.le_of_ble_eq_true rfl, Nat.le_of_ble_eq_true rfl⟩ hne hlk hA hAe (fun o t h => Or.inr h) ?_ (fun v524 p523 H locs hp523 hw => ?_)
              · exact fun p1 H1 locs1 hp hw => by obtain ⟨pq1, pq2, pq3, pq4, rfl, hq1, hq2⟩ := hp; exact ⟨_, ⟨pq1, pq2, pq3, pq4, rfl, hq1, hq2⟩, hw⟩
              obtain ⟨pf522, rfl, e525, e526, e527, e528, e529, e530, e531, e532, e533, e534⟩ := hp523
              have e525 : v524.toInt = z520.toInt := e525
              have e526 : SoIs ta v524 1 := e526
              have e527 : (pf522 11).toInt = z520.toInt + 1 := e527
              have e528 : (pf522 11).toInt < (tf 6).toInt := e528
              have e529 : bp ta z520 + 1 ≤ bp ta (pf522 11) := e529
              have e530 : (pf522 12).toInt = (pf 12).toInt := e530
              have e531 : (pf522 13).toInt = (pf 13).toInt := e531
              have e532 : (pf522 24).toInt = (pf 24).toInt := e532
              have e533 : (pf522 25).toInt = (pf 25).toInt := e533
              have e534 : (pf522 26).toInt = (pf 26).toInt := e534
              have hw : pw D A s.heap H locs [wdP cs h r g tf ta pf522 na ma wa cf ca ef ea xf xa] := hw
              have lv524 := Int32.le_toInt v524
              have uv524 := Int32.toInt_lt v524
              refine lv_istore_n (lv' := [(3, .int v524), (2, .int 0), (1, .int z476), (0, .ref h)]) S.x S.b d_Mpg_piece_106 rfl hl (by decide) rfl (fun ls hl => ?_)
              refine lv_aload_n S.x S.b d_Mpg_piece_107 rfl (lv_at hl 3 rfl) ?_
              refine lv_aload_n S.x S.b d_Mpg_piece_108 rfl (lv_at hl 3 rfl) ?_
              obtain ⟨sk535, hRsk535, st536, sb537, hSsk535⟩ := oP_lit hP (k := 87) (tx := "(") (n := 1) (List.mem_of_getElem? (i := 35) rfl)
              refine va_ldcS S.x S.b S.own hRsk535 d_Mpg_piece_109 ?_
              refine px_calli (pr := []) (px_runV (As := [.ref sk535]) (rest := [.ref h]) S (c_mp_is l D cs sk535 1 h r g tf ta pf522 na ma wa cf ca ef ea xf xa   (show 0 ≤ (pf522 11).toInt from by omega) (show (pf522 11).toInt < (tf 6).toInt from by omega) (show (tf 6).toInt ≤ 2049 from by omega) (show 1 ≤ 100 from by omega) htk _) hT (pr := []) (pcs := [wdP cs h r g tf ta pf522 na ma wa cf ca ef ea xf xa]) hw (oX_call (P := (fun A U H => (oP A g U H) ∧ (StS A sk535 1 U H))) (pr := []) (oG_and oG_P oG_Q) hw hA ⟨hP, ⟨_, _, hSsk535⟩⟩) (px_recv hT hw 0 0 rfl rfl rfl) m11_217 m11_214 m11_216 ms_8_14 m1_21 q_Mpg_is ⟨show 3 + 1 ≤ (8 * 61 + 32) from by omega, show 8 + (2 + 11) + 120 ≤ (220 * 61 + 1440) from by omega⟩ hl.1 rfl (Nat.le_of_ble_eq_true rfl) d_Mpg_piece_111 ⟨Nat.le_of_ble_eq_true rfl, Nat.le_of_ble_eq_true rfl⟩) hw hA (fun v539 p538 H locs hp538 hw => ?_)
              obtain ⟨rfl, e540, e541⟩ := hp538
              have e540 := z_rng e540
              have e541 : v539.toInt = 1 → (pf522 11).toInt + 1 < (tf 6).toInt ∧ so ta (pf522 11) = 5 := e541
              have hw : pw D A s.heap H locs [wdP cs h r g tf ta pf522 na ma wa cf ca ef ea xf xa] := hw
              have lv539 := Int32.le_toInt v539
              have uv539 := Int32.toInt_lt v539
              refine th_callv (ps0 := [wdP cs h r g tf ta pf na ma wa cf ca ef ea xf xa]) (pr := [wdP cs h r g tf ta pf522 na ma wa cf ca ef ea xf xa]) (pcs := []) (As := [.int v539]) (rest := []) (c_mp_need l hlf D cs h v539) S hT hw (oX_call (P := (fun A U H => (oN A U H))) (pr := [wdP cs h r g tf ta pf522 na ma wa cf ca ef ea xf xa]) oG_N hw hA hN) (px_recv hT hw 0 0 rfl rfl rfl) m11_233 m11_230 m11_232 ms_9_0 m1_21 q_Mpg_need ⟨show 6 + 1 ≤ (8 * 61 + 32) from by omega, show 8 + (2 + 11) + 100 ≤ (220 * 61 + 1440) from by omega⟩ hl.1 rfl (Nat.le_of_ble_eq_true rfl) d_Mpg_piece_114 ⟨Nat.le_of_ble_eq_true rfl, Nat.le_of_ble_eq_true rfl⟩ hne hlk hA hAe (fun o t h => Or.inr h) ?_ (fun p542 H locs hp542 hw => ?_)
              · exact fun p1 H1 locs1 hp hw => by subst hp; exact ⟨_, ⟨pf522, na, ma, wa, rfl, by omega, by omega⟩, hw.sub [0] rfl rfl⟩
              obtain ⟨rfl, hndp542⟩ := hp542
              have hndp542 : ¬ v539.toInt = 0 := hndp542
              have hw : pw D A s.heap H locs [wdP cs h r g tf ta pf522 na ma wa cf ca ef ea xf xa] := hw
              refine lv_aload_n S.x S.b d_Mpg_piece_117 rfl (lv_at hl 3 rfl) ?_
              refine lv_iload_n S.x S.b d_Mpg_piece_118 rfl (lv_at hl 2 rfl) ?_
              refine lv_iload_n S.x S.b d_Mpg_piece_119 rfl (lv_at hl 0 rfl) ?_
              refine th_callv (ps0 := [wdP cs h r g tf ta pf na ma wa cf ca ef ea xf xa]) (pr := []) (pcs := [wdP cs h r g tf ta pf522 na ma wa cf ca ef ea xf xa]) (As := [.int z476, .int v524]) (rest := []) (c_mp_functionText l D cs h r g tf ta cf ca ef ea xf xa pf522 na ma wa z476 v524  (show 0 ≤ (pf522 11).toInt from by omega) (show (pf522 11).toInt < (tf 6).toInt from by omega) (show (tf 6).toInt ≤ 2049 from by omega) (show (pf522 12).toInt = 0 from by omega) (show 0 ≤ (pf522 13).toInt from by omega) (show (pf522 13).toInt ≤ (pf522 11).toInt + 10 from by omega) (show (pf522 26).toInt = 0 from by omega) (show -1 ≤ (pf522 25).toInt from by omega) (show (pf522 25).toInt < (pf522 13).toInt from by omega) (show 0 ≤ z476.toInt from by omega) (show z476.toInt ≤ 2 from by omega) (show 0 ≤ v524.toInt from by omega) (show v524.toInt < (tf 6).toInt from by omega) (show 4 ≤ bp ta (pf522 11) from by omega) hlf htk (by assumption) (RzV.le (rz_eq hzg (by omega) (by omega)) (by omega) (by omega) (by omega) (by omega))) S hT hw (oX_call (P := (fun A U H => (oN A U H) ∧ (oP A g U H))) (pr := []) (oG_and oG_N oG_P) hw hA ⟨hN, hP⟩) (px_recv hT hw 0 0 rfl rfl rfl) m12_89 m12_86 m12_88 ms_10_7 m1_21 q_Mpg_functionText ⟨show (8 * 61 + 30) + 1 ≤ (8 * 61 + 32) from by omega, show 8 + (6 + 11) + (220 * 61 + 1360) ≤ (220 * 61 + 1440) from by omega⟩ hl.1 rfl (Nat.le_of_ble_eq_true rfl) d_Mpg_piece_120 ⟨Nat.le_of_ble_eq_true rfl, Nat.le_of_ble_eq_true rfl⟩ hne hlk hA hAe (fun o t h => Or.inr h) ?_ (fun p552 H locs hp552 hw => ?_)
              · exact fun p1 H1 locs1 hp hw => by obtain ⟨pq1, pq2, pq3, pq4, rfl, hq1, hq2⟩ := hp; exact ⟨_, ⟨pq1, pq2, pq3, pq4, rfl, hq1, hq2⟩, hw⟩
              obtain ⟨pf548, na549, ma550, wa551, rfl, e554, e555, e556, e557, e558, e559, e560, e561, e562, e563⟩ := hp552
              have e554 : (pf522 11).toInt + 1 ≤ (pf548 11).toInt := e554
              have e555 : (pf548 11).toInt < (tf 6).toInt := e555
              have e556 : (pf522 13).toInt ≤ (pf548 13).toInt := e556
              have e557 : (pf548 13).toInt - (pf522 13).toInt ≤ (pf548 11).toInt - (pf522 11).toInt := e557
              have e558 : bp ta (pf522 11) + 1 ≤ bp ta (pf548 11) := e558
              have e559 : (pf548 12).toInt = 0 := e559
              have e560 : (pf548 26).toInt = 0 := e560
              have e561 : -1 ≤ (pf548 25).toInt := e561
              have e562 : (pf548 25).toInt < (pf548 13).toInt := e562
              have e563 : RzG ta (tf 6).toInt na549 ma550 (pf548 24) (pf548 25) 0 (pf548 13).toInt (3 * bp ta (pf548 11)) 200 := e563
              have hzg := e563
              have hw : pw D A s.heap H locs [wdP cs h r g tf ta pf548 na549 ma550 wa551 cf ca ef ea xf xa] := hw
              exact th_vret S hr hlk hAe hw (⟨pf548, na549, ma550, wa551, rfl, (show (pf 11).toInt + 1 ≤ (pf548 11).toInt from by omega), (show (pf548 11).toInt < (tf 6).toInt from by omega), (show (pf 13).toInt ≤ (pf548 13).toInt from by omega), (show (pf548 13).toInt - (pf 13).toInt ≤ (pf548 11).toInt - (pf 11).toInt from by omega), (show bp ta (pf 11) + 1 ≤ bp ta (pf548 11) from by omega), (show (pf548 12).toInt = 0 from by omega), (show (pf548 26).toInt = 0 from by omega), (show -1 ≤ (pf548 25).toInt from by omega), (show (pf548 25).toInt < (pf548 13).toInt from by omega), (show RzG ta (tf 6).toInt na549 ma550 (pf548 24) (pf548 25) 0 (pf548 13).toInt (3 * bp ta (pf548 11)) 200 from (RzV.le (rz_eq hzg (by omega) (by omega)) (by omega) (by omega) (by omega) (by omega)))⟩) d_Mpg_piece_123
        · have nc480 : z479.toInt = (1 : Int) := (i_eq (x := z479) (y := 1)).mp c480
          refine lv_aload_n S.x S.b d_Mpg_piece_62 rfl (lv_at hl 1 rfl) ?_
          refine lv_aload_n S.x S.b d_Mpg_piece_63 rfl (lv_at hl 1 rfl) ?_
          refine px_get S k_Mpg hT hw 0 0 11 (v := .int (pf 11)) rfl rfl rfl (by decide) m9_235 d_Mpg_piece_64 ?_
          refine lv_iconst (v := 2) S.x S.b d_Mpg_piece_67 (by decide) ?_
          refine lv_iadd S.x S.b d_Mpg_piece_68 ?_
          have lr564 := Int32.le_toInt (pf 11)
          have ur564 := Int32.toInt_lt (pf 11)
          refine lv_topi (fun z565 ez565 => ?_)
          have tz565 : z565.toInt = ((pf 11).toInt + (2 : Int) + 2147483648) % 4294967296 - 2147483648 := by rw [ez565]; exact i_add (pf 11) 2
          have lz565 := Int32.le_toInt z565
          have uz565 := Int32.toInt_lt z565
          try replace tz565 : z565.toInt = (pf 11).toInt + (2 : Int) := by omega
          obtain ⟨sk566, hRsk566, st567, sb568, hSsk566⟩ := oP_lit hP (k := 87) (tx := "(") (n := 1) (List.mem_of_getElem? (i := 35) rfl)
          refine va_ldcS S.x S.b S.own hRsk566 d_Mpg_piece_69 ?_
          refine px_calli (pr := []) (px_runV (As := [.int z565, .ref sk566]) (rest := []) S (c_mp_isAt l D cs sk566 1 h r g tf ta pf na ma wa cf ca ef ea xf xa z565  (show 0 ≤ z565.toInt from by omega) (show z565.toInt < (tf 6).toInt from by omega) (show (tf 6).toInt ≤ 2049 from by omega) (show 1 ≤ 100 from by omega) htk _) hT (pr := []) (pcs := [wdP cs h r g tf ta pf na ma wa cf ca ef ea xf xa]) hw (oX_call (P := (fun A U H => (oP A g U H) ∧ (StS A sk566 1 U H))) (pr := []) (oG_and oG_P oG_Q) hw hA ⟨hP, ⟨_, _, hSsk566⟩⟩) (px_recv hT hw 0 0 rfl rfl rfl) m11_221 m11_218 m11_220 ms_8_15 m1_21 q_Mpg_isAt ⟨show 2 + 1 ≤ (8 * 61 + 32) from by omega, show 8 + (3 + 11) + 80 ≤ (220 * 61 + 1440) from by omega⟩ hl.1 rfl (Nat.le_of_ble_eq_true rfl) d_Mpg_piece_71 ⟨Nat.le_of_ble_eq_true rfl, Nat.le_of_ble_eq_true rfl⟩) hw hA (fun v570 p569 H locs hp569 hw => ?_)
          obtain ⟨rfl, e571, e572⟩ := hp569
          have e571 := z_rng e571
          have e572 : v570.toInt = 1 → z565.toInt + 1 < (tf 6).toInt ∧ so ta z565 = 5 := e572
          have hw : pw D A s.heap H locs [wdP cs h r g tf ta pf na ma wa cf ca ef ea xf xa] := hw
          have lv570 := Int32.le_toInt v570
          have uv570 := Int32.toInt_lt v570
          refine lv_if_eq (tgt := 81) S.x S.b d_Mpg_piece_74 (by decide) (fun c573 => ?_) (fun c573 => ?_)
          · have nc573 : v570.toInt = (0 : Int) := (i_eq (x := v570) (y := 0)).mp c573
            refine lv_iconst (v := 0) S.x S.b d_Mpg_piece_81 (by decide) ?_
            refine lv_istore_n (lv' := [(2, .int 0), (1, .int z476), (0, .ref h)]) S.x S.b d_Mpg_piece_82 rfl hl (by decide) rfl (fun ls hl => ?_)
            refine lv_iload_n S.x S.b d_Mpg_piece_83 rfl (lv_at hl 0 rfl) ?_
            refine lv_if_ne (tgt := 92) S.x S.b d_Mpg_piece_84 (by decide) (fun c574 => ?_) (fun c574 => ?_)
            · exact absurd c574 (by decide)
            ·
              refine lv_iload_n S.x S.b d_Mpg_piece_87 rfl (lv_at hl 1 rfl) ?_
              refine lv_iconst (v := 2) S.x S.b d_Mpg_piece_88 (by decide) ?_
              refine lv_icmp_ne (tgt := 124) S.x S.b d_Mpg_piece_89 (by decide) (fun c575 => ?_) (fun c575 => ?_)
              · have nc575 : ¬ z476.toInt = (2 : Int) := mt (i_eq (x := z476) (y := 2)).mpr c575
                refine lv_aload_n S.x S.b d_Mpg_piece_124 rfl (lv_at hl 2 rfl) ?_
                refine lv_aload_n S.x S.b d_Mpg_piece_125 rfl (lv_at hl 2 rfl) ?_
                refine th_calli (ps0 := [wdP cs h r g tf ta pf na ma wa cf ca ef ea xf xa]) (pr := []) (pcs := [wdP cs h r g tf ta pf na ma wa cf ca ef ea xf xa]) (As := []) (rest := [.ref h]) (c_mp_declaration l D cs h r g tf ta cf ca ef ea xf xa pf na ma wa  lv (show 0 ≤ (pf 11).toInt from by omega) (show (pf 11).toInt < (tf 6).toInt from by omega) (show (tf 6).toInt ≤ 2049 from by omega) (show 0 ≤ (pf 12).toInt from by omega) (show (pf 12).toInt ≤ 60 from by omega) (show 0 ≤ (pf 13).toInt from by omega) (show (pf 13).toInt ≤ (pf 11).toInt + 10 from by omega) (show 0 ≤ (pf 26).toInt from by omega) (show (pf 26).toInt ≤ (pf 12).toInt from by omega) (show 61 ≤ (pf 12).toInt + (lv : Int) from by omega) (show lv ≤ 61 from by omega) (show (pf 11).toInt + 1 < (tf 6).toInt from by omega) (show so ta (pf 11) = 2 from by omega) (show 0 ≤ wh ta (pf 11) from by omega) (show wh ta (pf 11) ≤ 1 from by omega) hlf htk) S hT hw (oX_call (P := (fun A U H => (oN A U H) ∧ (oP A g U H))) (pr := []) (oG_and oG_N oG_P) hw hA ⟨hN, hP⟩) (px_recv hT hw 0 0 rfl rfl rfl) m12_105 m12_102 m12_104 ms_10_11 m1_21 q_Mpg_declaration ⟨show (8 * lv + 25) + 1 ≤ (8 * 61 + 32) from by omega, show 8 + (2 + 11) + (220 * lv + 1160) ≤ (220 * 61 + 1440) from by omega⟩ hl.1 rfl (Nat.le_of_ble_eq_true rfl) d_Mpg_piece_126 ⟨Nat.le_of_ble_eq_true rfl, Nat.le_of_ble_eq_true rfl⟩ hne hlk hA hAe (fun o t h => Or.inr h) ?_ (fun v585 p584 H locs hp584 hw => ?_)
                · exact fun p1 H1 locs1 hp hw => by obtain ⟨pq1, pq2, pq3, pq4, rfl, hq1, hq2⟩ := hp; exact ⟨_, ⟨pq1, pq2, pq3, pq4, rfl, hq1, hq2⟩, hw⟩
                obtain ⟨pf580, na581, ma582, wa583, rfl, e586, e587, e588, e589, e590, e591, e592, e593, e594, e595, e596, e597, e598⟩ := hp584
                have e586 : (pf 11).toInt + 1 ≤ (pf580 11).toInt := e586
                have e587 : (pf580 11).toInt < (tf 6).toInt := e587
                have e588 : (pf 13).toInt + 1 ≤ (pf580 13).toInt := e588
                have e589 : (pf580 13).toInt - (pf 13).toInt ≤ (pf580 11).toInt - (pf 11).toInt := e589
                have e590 : bp ta (pf 11) + 1 ≤ bp ta (pf580 11) := e590
                have e591 : (pf580 12).toInt = (pf 12).toInt := e591
                have e592 : (pf580 24).toInt = (pf 24).toInt := e592
                have e593 : (pf580 25).toInt = (pf 25).toInt := e593
                have e594 : (pf580 26).toInt = (pf 26).toInt := e594
                have e595 : FrB (pf 13).toInt na ma na581 ma582 := e595
                have hzg := hzg.ag fg_ok (FrB.ag e595 (by omega))
                have hfb := hfb.tr e595 (by omega)
                have e596 : FrW (pf 26).toInt wa wa583 := e596
                have hfw := hfw.tr e596 (by omega)
                have e597 : VlS ta (tf 6).toInt na581 ma582 v585 (pf 13).toInt (pf580 13).toInt (3 * (bp ta (pf580 11) - bp ta (pf 11))) (200 - (pf 12).toInt) := e597
                have hv_v585 := e597
                have hn_hv_v585 := hv_v585.num fs_ok
                have e598 : DcN na581 v585 := e598
                have hf_14_v585 : na581 14 v585.toNatClampNeg = 23 := e598
                have hw : pw D A s.heap H locs [wdP cs h r g tf ta pf580 na581 ma582 wa583 cf ca ef ea xf xa] := hw
                have lv585 := Int32.le_toInt v585
                have uv585 := Int32.toInt_lt v585
                refine px_callv (pr := []) (px_runV (As := [.int v585]) (rest := []) S (c_mp_add l D cs h r g tf ta ma582 wa583 cf ca ef ea xf xa pf580 na581 v585  (show (pf580 25).toInt < 2100 from by omega) htk _) hT (pr := []) (pcs := [wdP cs h r g tf ta pf580 na581 ma582 wa583 cf ca ef ea xf xa]) hw px_X.tt (px_recv hT hw 0 0 rfl rfl rfl) m12_81 m12_78 m12_80 ms_10_5 m1_21 q_Mpg_add ⟨show 1 + 1 ≤ (8 * 61 + 32) from by omega, show 8 + (2 + 11) + 30 ≤ (220 * 61 + 1440) from by omega⟩ hl.1 rfl (Nat.le_of_ble_eq_true rfl) d_Mpg_piece_129 ⟨Nat.le_of_ble_eq_true rfl, Nat.le_of_ble_eq_true rfl⟩) hw hA (fun p603 H locs hp603 hw => ?_)
                obtain ⟨pf601, na602, rfl, e605, e606, e607, e608, e609, e610⟩ := hp603
                have e605 : (pf601 11).toInt = (pf580 11).toInt := e605
                have e606 : (pf601 12).toInt = (pf580 12).toInt := e606
                have e607 : (pf601 13).toInt = (pf580 13).toInt := e607
                have e608 : (pf601 26).toInt = (pf580 26).toInt := e608
                have e609 : (pf601 25).toInt = v585.toInt := e609
                have e610 : Hg na581 na602 (pf580 24) (pf580 25) v585 (pf601 24) := e610
                have hvg := vg_decl (VlV.le hv_v585 (Int.le_refl _) (Int.le_refl _) (Int.le_refl _) (show _ ≤ (200 : Int) from by omega)) hf_14_v585
                have hzg := Hg.row e610 fg_ok (rz_eq hzg (by omega) (by omega)) (VlV.le hvg (by omega) (Int.le_refl _) (Int.le_refl _) (by omega)) (by omega) (by omega)
                obtain ⟨qb6111, qb6112, qb6113, qb6114⟩ := tk_eq (ta := ta) (x := (pf601 11)) (y := (pf580 11)) (by omega)
                have hw : pw D A s.heap H locs [wdP cs h r g tf ta pf601 na602 ma582 wa583 cf ca ef ea xf xa] := hw
                exact th_vret S hr hlk hAe hw (⟨pf601, na602, ma582, wa583, rfl, (show (pf 11).toInt + 1 ≤ (pf601 11).toInt from by omega), (show (pf601 11).toInt < (tf 6).toInt from by omega), (show (pf 13).toInt ≤ (pf601 13).toInt from by omega), (show (pf601 13).toInt - (pf 13).toInt ≤ (pf601 11).toInt - (pf 11).toInt from by omega), (show bp ta (pf 11) + 1 ≤ bp ta (pf601 11) from by omega), (show (pf601 12).toInt = 0 from by omega), (show (pf601 26).toInt = 0 from by omega), (show -1 ≤ (pf601 25).toInt from by omega), (show (pf601 25).toInt < (pf601 13).toInt from by omega), (show RzG ta (tf 6).toInt na602 ma582 (pf601 24) (pf601 25) 0 (pf601 13).toInt (3 * bp ta (pf601 11)) 200 from (RzV.le (rz_eq (Or.inr hzg) (by omega) (by omega)) (by omega) (by omega) (by omega) (by omega)))⟩) d_Mpg_piece_132
              · have nc575 : z476.toInt = (2 : Int) := (i_eq (x := z476) (y := 2)).mp c575
                refine lv_aload_n S.x S.b d_Mpg_piece_92 rfl (lv_at hl 2 rfl) ?_
                refine lv_dup S.x S.b d_Mpg_piece_93 rfl ?_
                refine px_get S k_Mpg hT hw 0 0 11 (v := .int (pf 11)) rfl rfl rfl (by decide) m9_235 d_Mpg_piece_94 ?_
                refine lv_iconst (v := 1) S.x S.b d_Mpg_piece_97 (by decide) ?_
                refine lv_iadd S.x S.b d_Mpg_piece_98 ?_
                have lr612 := Int32.le_toInt (pf 11)
                have ur612 := Int32.toInt_lt (pf 11)
                refine lv_topi (fun z613 ez613 => ?_)
                have tz613 : z613.toInt = ((pf 11).toInt + (1 : Int) + 2147483648) % 4294967296 - 2147483648 := by rw [ez613]; exact i_add (pf 11) 1
                have lz613 := Int32.le_toInt z613
                have uz613 := Int32.toInt_lt z613
                try replace tz613 : z613.toInt = (pf 11).toInt + (1 : Int) := by omega
                have hnx98 := tk_n htk (x := (pf 11)) (y := z613) (by omega) (by omega) (by omega)
                refine px_put S k_Mpg hT hw 0 0 11 rfl rfl (by decide) m9_235 rfl rfl rfl (Nat.le_of_ble_eq_true rfl) d_Mpg_piece_99 (w' := wdP cs h r g tf ta (upd pf 11 z613) na ma wa cf ca ef ea xf xa) (ps' := [wdP cs h r g tf ta (upd pf 11 z613) na ma wa cf ca ef ea xf xa]) rfl rfl (fun H locs hw => ?_)
                refine lv_aload_n S.x S.b d_Mpg_piece_102 rfl (lv_at hl 2 rfl) ?_
                refine th_calli (ps0 := [wdP cs h r g tf ta pf na ma wa cf ca ef ea xf xa]) (pr := []) (pcs := [wdP cs h r g tf ta (upd pf 11 z613) na ma wa cf ca ef ea xf xa]) (As := []) (rest := []) (c_mp_name l D cs h r g tf ta na ma wa cf ca ef ea xf xa (upd pf 11 z613)   (show 0 ≤ z613.toInt from by omega) (show z613.toInt < (tf 6).toInt from by omega) (show (tf 6).toInt ≤ 2049 from by omega) hlf htk) S hT hw (oX_call (P := (fun A U H => (oN A U H) ∧ (oP A g U H))) (pr := []) (oG_and oG_N oG_P) hw hA ⟨hN, hP⟩) (px_recv hT hw 0 0 rfl rfl rfl) m12_2 m11_239 m12_1 ms_9_2 m1_21 q_Mpg_name ⟨show 7 + 1 ≤ (8 * 61 + 32) from by omega, show 8 + (1 + 11) + 150 ≤ (220 * 61 + 1440) from by omega⟩ hl.1 rfl (Nat.le_of_ble_eq_true rfl) d_Mpg_piece_103 ⟨Nat.le_of_ble_eq_true rfl, Nat.le_of_ble_eq_true rfl⟩ hne hlk hA hAe (fun o t h => Or.inr h) ?_ (fun v617 p616 H locs hp616 hw => ?_)
                · exact fun p1 H1 locs1 hp hw => by obtain ⟨pq1, pq2, pq3, pq4, rfl, hq1, hq2⟩ := hp; exact ⟨_, ⟨pq1, pq2, pq3, pq4, rfl, hq1, hq2⟩, hw⟩
                obtain ⟨pf615, rfl, e618, e619, e620, e621, e622, e623, e624, e625, e626, e627⟩ := hp616
                have e618 : v617.toInt = z613.toInt := e618
                have e619 : SoIs ta v617 1 := e619
                have e620 : (pf615 11).toInt = z613.toInt + 1 := e620
                have e621 : (pf615 11).toInt < (tf 6).toInt := e621
                have e622 : bp ta z613 + 1 ≤ bp ta (pf615 11) := e622
                have e623 : (pf615 12).toInt = (pf 12).toInt := e623
                have e624 : (pf615 13).toInt = (pf 13).toInt := e624
                have e625 : (pf615 24).toInt = (pf 24).toInt := e625
                have e626 : (pf615 25).toInt = (pf 25).toInt := e626
                have e627 : (pf615 26).toInt = (pf 26).toInt := e627
                have hw : pw D A s.heap H locs [wdP cs h r g tf ta pf615 na ma wa cf ca ef ea xf xa] := hw
                have lv617 := Int32.le_toInt v617
                have uv617 := Int32.toInt_lt v617
                refine lv_istore_n (lv' := [(3, .int v617), (2, .int 0), (1, .int z476), (0, .ref h)]) S.x S.b d_Mpg_piece_106 rfl hl (by decide) rfl (fun ls hl => ?_)
                refine lv_aload_n S.x S.b d_Mpg_piece_107 rfl (lv_at hl 3 rfl) ?_
                refine lv_aload_n S.x S.b d_Mpg_piece_108 rfl (lv_at hl 3 rfl) ?_
                obtain ⟨sk628, hRsk628, st629, sb630, hSsk628⟩ := oP_lit hP (k := 87) (tx := "(") (n := 1) (List.mem_of_getElem? (i := 35) rfl)
                refine va_ldcS S.x S.b S.own hRsk628 d_Mpg_piece_109 ?_
                refine px_calli (pr := []) (px_runV (As := [.ref sk628]) (rest := [.ref h]) S (c_mp_is l D cs sk628 1 h r g tf ta pf615 na ma wa cf ca ef ea xf xa   (show 0 ≤ (pf615 11).toInt from by omega) (show (pf615 11).toInt < (tf 6).toInt from by omega) (show (tf 6).toInt ≤ 2049 from by omega) (show 1 ≤ 100 from by omega) htk _) hT (pr := []) (pcs := [wdP cs h r g tf ta pf615 na ma wa cf ca ef ea xf xa]) hw (oX_call (P := (fun A U H => (oP A g U H) ∧ (StS A sk628 1 U H))) (pr := []) (oG_and oG_P oG_Q) hw hA ⟨hP, ⟨_, _, hSsk628⟩⟩) (px_recv hT hw 0 0 rfl rfl rfl) m11_217 m11_214 m11_216 ms_8_14 m1_21 q_Mpg_is ⟨show 3 + 1 ≤ (8 * 61 + 32) from by omega, show 8 + (2 + 11) + 120 ≤ (220 * 61 + 1440) from by omega⟩ hl.1 rfl (Nat.le_of_ble_eq_true rfl) d_Mpg_piece_111 ⟨Nat.le_of_ble_eq_true rfl, Nat.le_of_ble_eq_true rfl⟩) hw hA (fun v632 p631 H locs hp631 hw => ?_)
                obtain ⟨rfl, e633, e634⟩ := hp631
                have e633 := z_rng e633
                have e634 : v632.toInt = 1 → (pf615 11).toInt + 1 < (tf 6).toInt ∧ so ta (pf615 11) = 5 := e634
                have hw : pw D A s.heap H locs [wdP cs h r g tf ta pf615 na ma wa cf ca ef ea xf xa] := hw
                have lv632 := Int32.le_toInt v632
                have uv632 := Int32.toInt_lt v632
                refine th_callv (ps0 := [wdP cs h r g tf ta pf na ma wa cf ca ef ea xf xa]) (pr := [wdP cs h r g tf ta pf615 na ma wa cf ca ef ea xf xa]) (pcs := []) (As := [.int v632]) (rest := []) (c_mp_need l hlf D cs h v632) S hT hw (oX_call (P := (fun A U H => (oN A U H))) (pr := [wdP cs h r g tf ta pf615 na ma wa cf ca ef ea xf xa]) oG_N hw hA hN) (px_recv hT hw 0 0 rfl rfl rfl) m11_233 m11_230 m11_232 ms_9_0 m1_21 q_Mpg_need ⟨show 6 + 1 ≤ (8 * 61 + 32) from by omega, show 8 + (2 + 11) + 100 ≤ (220 * 61 + 1440) from by omega⟩ hl.1 rfl (Nat.le_of_ble_eq_true rfl) d_Mpg_piece_114 ⟨Nat.le_of_ble_eq_true rfl, Nat.le_of_ble_eq_true rfl⟩ hne hlk hA hAe (fun o t h => Or.inr h) ?_ (fun p635 H locs hp635 hw => ?_)
                · exact fun p1 H1 locs1 hp hw => by subst hp; exact ⟨_, ⟨pf615, na, ma, wa, rfl, by omega, by omega⟩, hw.sub [0] rfl rfl⟩
                obtain ⟨rfl, hndp635⟩ := hp635
                have hndp635 : ¬ v632.toInt = 0 := hndp635
                have hw : pw D A s.heap H locs [wdP cs h r g tf ta pf615 na ma wa cf ca ef ea xf xa] := hw
                refine lv_aload_n S.x S.b d_Mpg_piece_117 rfl (lv_at hl 3 rfl) ?_
                refine lv_iload_n S.x S.b d_Mpg_piece_118 rfl (lv_at hl 2 rfl) ?_
                refine lv_iload_n S.x S.b d_Mpg_piece_119 rfl (lv_at hl 0 rfl) ?_
                refine th_callv (ps0 := [wdP cs h r g tf ta pf na ma wa cf ca ef ea xf xa]) (pr := []) (pcs := [wdP cs h r g tf ta pf615 na ma wa cf ca ef ea xf xa]) (As := [.int z476, .int v617]) (rest := []) (c_mp_functionText l D cs h r g tf ta cf ca ef ea xf xa pf615 na ma wa z476 v617  (show 0 ≤ (pf615 11).toInt from by omega) (show (pf615 11).toInt < (tf 6).toInt from by omega) (show (tf 6).toInt ≤ 2049 from by omega) (show (pf615 12).toInt = 0 from by omega) (show 0 ≤ (pf615 13).toInt from by omega) (show (pf615 13).toInt ≤ (pf615 11).toInt + 10 from by omega) (show (pf615 26).toInt = 0 from by omega) (show -1 ≤ (pf615 25).toInt from by omega) (show (pf615 25).toInt < (pf615 13).toInt from by omega) (show 0 ≤ z476.toInt from by omega) (show z476.toInt ≤ 2 from by omega) (show 0 ≤ v617.toInt from by omega) (show v617.toInt < (tf 6).toInt from by omega) (show 4 ≤ bp ta (pf615 11) from by omega) hlf htk (by assumption) (RzV.le (rz_eq hzg (by omega) (by omega)) (by omega) (by omega) (by omega) (by omega))) S hT hw (oX_call (P := (fun A U H => (oN A U H) ∧ (oP A g U H))) (pr := []) (oG_and oG_N oG_P) hw hA ⟨hN, hP⟩) (px_recv hT hw 0 0 rfl rfl rfl) m12_89 m12_86 m12_88 ms_10_7 m1_21 q_Mpg_functionText ⟨show (8 * 61 + 30) + 1 ≤ (8 * 61 + 32) from by omega, show 8 + (6 + 11) + (220 * 61 + 1360) ≤ (220 * 61 + 1440) from by omega⟩ hl.1 rfl (Nat.le_of_ble_eq_true rfl) d_Mpg_piece_120 ⟨Nat.le_of_ble_eq_true rfl, Nat.le_of_ble_eq_true rfl⟩ hne hlk hA hAe (fun o t h => Or.inr h) ?_ (fun p645 H locs hp645 hw => ?_)
                · exact fun p1 H1 locs1 hp hw => by obtain ⟨pq1, pq2, pq3, pq4, rfl, hq1, hq2⟩ := hp; exact ⟨_, ⟨pq1, pq2, pq3, pq4, rfl, hq1, hq2⟩, hw⟩
                obtain ⟨pf641, na642, ma643, wa644, rfl, e647, e648, e649, e650, e651, e652, e653, e654, e655, e656⟩ := hp645
                have e647 : (pf615 11).toInt + 1 ≤ (pf641 11).toInt := e647
                have e648 : (pf641 11).toInt < (tf 6).toInt := e648
                have e649 : (pf615 13).toInt ≤ (pf641 13).toInt := e649
                have e650 : (pf641 13).toInt - (pf615 13).toInt ≤ (pf641 11).toInt - (pf615 11).toInt := e650
                have e651 : bp ta (pf615 11) + 1 ≤ bp ta (pf641 11) := e651
                have e652 : (pf641 12).toInt = 0 := e652
                have e653 : (pf641 26).toInt = 0 := e653
                have e654 : -1 ≤ (pf641 25).toInt := e654
                have e655 : (pf641 25).toInt < (pf641 13).toInt := e655
                have e656 : RzG ta (tf 6).toInt na642 ma643 (pf641 24) (pf641 25) 0 (pf641 13).toInt (3 * bp ta (pf641 11)) 200 := e656
                have hzg := e656
                have hw : pw D A s.heap H locs [wdP cs h r g tf ta pf641 na642 ma643 wa644 cf ca ef ea xf xa] := hw
                exact th_vret S hr hlk hAe hw (⟨pf641, na642, ma643, wa644, rfl, (show (pf 11).toInt + 1 ≤ (pf641 11).toInt from by omega), (show (pf641 11).toInt < (tf 6).toInt from by omega), (show (pf 13).toInt ≤ (pf641 13).toInt from by omega), (show (pf641 13).toInt - (pf 13).toInt ≤ (pf641 11).toInt - (pf 11).toInt from by omega), (show bp ta (pf 11) + 1 ≤ bp ta (pf641 11) from by omega), (show (pf641 12).toInt = 0 from by omega), (show (pf641 26).toInt = 0 from by omega), (show -1 ≤ (pf641 25).toInt from by omega), (show (pf641 25).toInt < (pf641 13).toInt from by omega), (show RzG ta (tf 6).toInt na642 ma643 (pf641 24) (pf641 25) 0 (pf641 13).toInt (3 * bp ta (pf641 11)) 200 from (RzV.le (rz_eq hzg (by omega) (by omega)) (by omega) (by omega) (by omega) (by omega)))⟩) d_Mpg_piece_123
          · have nc573 : ¬ v570.toInt = (0 : Int) := mt (i_eq (x := v570) (y := 0)).mpr c573
            refine lv_iconst (v := 1) S.x S.b d_Mpg_piece_77 (by decide) ?_
            refine lv_goto (tgt := 82) S.x S.b d_Mpg_piece_78 (by decide) ?_
            refine lv_istore_n (lv' := [(2, .int 1), (1, .int z476), (0, .ref h)]) S.x S.b d_Mpg_piece_82 rfl hl (by decide) rfl (fun ls hl => ?_)
            refine lv_iload_n S.x S.b d_Mpg_piece_83 rfl (lv_at hl 0 rfl) ?_
            refine lv_if_ne (tgt := 92) S.x S.b d_Mpg_piece_84 (by decide) (fun c657 => ?_) (fun c657 => ?_)
            ·
              refine lv_aload_n S.x S.b d_Mpg_piece_92 rfl (lv_at hl 2 rfl) ?_
              refine lv_dup S.x S.b d_Mpg_piece_93 rfl ?_
              refine px_get S k_Mpg hT hw 0 0 11 (v := .int (pf 11)) rfl rfl rfl (by decide) m9_235 d_Mpg_piece_94 ?_
              refine lv_iconst (v := 1) S.x S.b d_Mpg_piece_97 (by decide) ?_
              refine lv_iadd S.x S.b d_Mpg_piece_98 ?_
              have lr658 := Int32.le_toInt (pf 11)
              have ur658 := Int32.toInt_lt (pf 11)
              refine lv_topi (fun z659 ez659 => ?_)
              have tz659 : z659.toInt = ((pf 11).toInt + (1 : Int) + 2147483648) % 4294967296 - 2147483648 := by rw [ez659]; exact i_add (pf 11) 1
              have lz659 := Int32.le_toInt z659
              have uz659 := Int32.toInt_lt z659
              try replace tz659 : z659.toInt = (pf 11).toInt + (1 : Int) := by omega
              have hnx98 := tk_n htk (x := (pf 11)) (y := z659) (by omega) (by omega) (by omega)
              refine px_put S k_Mpg hT hw 0 0 11 rfl rfl (by decide) m9_235 rfl rfl rfl (Nat.le_of_ble_eq_true rfl) d_Mpg_piece_99 (w' := wdP cs h r g tf ta (upd pf 11 z659) na ma wa cf ca ef ea xf xa) (ps' := [wdP cs h r g tf ta (upd pf 11 z659) na ma wa cf ca ef ea xf xa]) rfl rfl (fun H locs hw => ?_)
              refine lv_aload_n S.x S.b d_Mpg_piece_102 rfl (lv_at hl 2 rfl) ?_
              refine th_calli (ps0 := [wdP cs h r g tf ta pf na ma wa cf ca ef ea xf xa]) (pr := []) (pcs := [wdP cs h r g tf ta (upd pf 11 z659) na ma wa cf ca ef ea xf xa]) (As := []) (rest := []) (c_mp_name l D cs h r g tf ta na ma wa cf ca ef ea xf xa (upd pf 11 z659)   (show 0 ≤ z659.toInt from by omega) (show z659.toInt < (tf 6).toInt from by omega) (show (tf 6).toInt ≤ 2049 from by omega) hlf htk) S hT hw (oX_call (P := (fun A U H => (oN A U H) ∧ (oP A g U H))) (pr := []) (oG_and oG_N oG_P) hw hA ⟨hN, hP⟩) (px_recv hT hw 0 0 rfl rfl rfl) m12_2 m11_239 m12_1 ms_9_2 m1_21 q_Mpg_name ⟨show 7 + 1 ≤ (8 * 61 + 32) from by omega, show 8 + (1 + 11) + 150 ≤ (220 * 61 + 1440) from by omega⟩ hl.1 rfl (Nat.le_of_ble_eq_true rfl) d_Mpg_piece_103 ⟨Nat.le_of_ble_eq_true rfl, Nat.le_of_ble_eq_true rfl⟩ hne hlk hA hAe (fun o t h => Or.inr h) ?_ (fun v663 p662 H locs hp662 hw => ?_)
              · exact fun p1 H1 locs1 hp hw => by obtain ⟨pq1, pq2, pq3, pq4, rfl, hq1, hq2⟩ := hp; exact ⟨_, ⟨pq1, pq2, pq3, pq4, rfl, hq1, hq2⟩, hw⟩
              obtain ⟨pf661, rfl, e664, e665, e666, e667, e668, e669, e670, e671, e672, e673⟩ := hp662
              have e664 : v663.toInt = z659.toInt := e664
              have e665 : SoIs ta v663 1 := e665
              have e666 : (pf661 11).toInt = z659.toInt + 1 := e666
              have e667 : (pf661 11).toInt < (tf 6).toInt := e667
              have e668 : bp ta z659 + 1 ≤ bp ta (pf661 11) := e668
              have e669 : (pf661 12).toInt = (pf 12).toInt := e669
              have e670 : (pf661 13).toInt = (pf 13).toInt := e670
              have e671 : (pf661 24).toInt = (pf 24).toInt := e671
              have e672 : (pf661 25).toInt = (pf 25).toInt := e672
              have e673 : (pf661 26).toInt = (pf 26).toInt := e673
              have hw : pw D A s.heap H locs [wdP cs h r g tf ta pf661 na ma wa cf ca ef ea xf xa] := hw
              have lv663 := Int32.le_toInt v663
              have uv663 := Int32.toInt_lt v663
              refine lv_istore_n (lv' := [(3, .int v663), (2, .int 1), (1, .int z476), (0, .ref h)]) S.x S.b d_Mpg_piece_106 rfl hl (by decide) rfl (fun ls hl => ?_)
              refine lv_aload_n S.x S.b d_Mpg_piece_107 rfl (lv_at hl 3 rfl) ?_
              refine lv_aload_n S.x S.b d_Mpg_piece_108 rfl (lv_at hl 3 rfl) ?_
              obtain ⟨sk674, hRsk674, st675, sb676, hSsk674⟩ := oP_lit hP (k := 87) (tx := "(") (n := 1) (List.mem_of_getElem? (i := 35) rfl)
              refine va_ldcS S.x S.b S.own hRsk674 d_Mpg_piece_109 ?_
              refine px_calli (pr := []) (px_runV (As := [.ref sk674]) (rest := [.ref h]) S (c_mp_is l D cs sk674 1 h r g tf ta pf661 na ma wa cf ca ef ea xf xa   (show 0 ≤ (pf661 11).toInt from by omega) (show (pf661 11).toInt < (tf 6).toInt from by omega) (show (tf 6).toInt ≤ 2049 from by omega) (show 1 ≤ 100 from by omega) htk _) hT (pr := []) (pcs := [wdP cs h r g tf ta pf661 na ma wa cf ca ef ea xf xa]) hw (oX_call (P := (fun A U H => (oP A g U H) ∧ (StS A sk674 1 U H))) (pr := []) (oG_and oG_P oG_Q) hw hA ⟨hP, ⟨_, _, hSsk674⟩⟩) (px_recv hT hw 0 0 rfl rfl rfl) m11_217 m11_214 m11_216 ms_8_14 m1_21 q_Mpg_is ⟨show 3 + 1 ≤ (8 * 61 + 32) from by omega, show 8 + (2 + 11) + 120 ≤ (220 * 61 + 1440) from by omega⟩ hl.1 rfl (Nat.le_of_ble_eq_true rfl) d_Mpg_piece_111 ⟨Nat.le_of_ble_eq_true rfl, Nat.le_of_ble_eq_true rfl⟩) hw hA (fun v678 p677 H locs hp677 hw => ?_)
              obtain ⟨rfl, e679, e680⟩ := hp677
              have e679 := z_rng e679
              have e680 : v678.toInt = 1 → (pf661 11).toInt + 1 < (tf 6).toInt ∧ so ta (pf661 11) = 5 := e680
              have hw : pw D A s.heap H locs [wdP cs h r g tf ta pf661 na ma wa cf ca ef ea xf xa] := hw
              have lv678 := Int32.le_toInt v678
              have uv678 := Int32.toInt_lt v678
              refine th_callv (ps0 := [wdP cs h r g tf ta pf na ma wa cf ca ef ea xf xa]) (pr := [wdP cs h r g tf ta pf661 na ma wa cf ca ef ea xf xa]) (pcs := []) (As := [.int v678]) (rest := []) (c_mp_need l hlf D cs h v678) S hT hw (oX_call (P := (fun A U H => (oN A U H))) (pr := [wdP cs h r g tf ta pf661 na ma wa cf ca ef ea xf xa]) oG_N hw hA hN) (px_recv hT hw 0 0 rfl rfl rfl) m11_233 m11_230 m11_232 ms_9_0 m1_21 q_Mpg_need ⟨show 6 + 1 ≤ (8 * 61 + 32) from by omega, show 8 + (2 + 11) + 100 ≤ (220 * 61 + 1440) from by omega⟩ hl.1 rfl (Nat.le_of_ble_eq_true rfl) d_Mpg_piece_114 ⟨Nat.le_of_ble_eq_true rfl, Nat.le_of_ble_eq_true rfl⟩ hne hlk hA hAe (fun o t h => Or.inr h) ?_ (fun p681 H locs hp681 hw => ?_)
              · exact fun p1 H1 locs1 hp hw => by subst hp; exact ⟨_, ⟨pf661, na, ma, wa, rfl, by omega, by omega⟩, hw.sub [0] rfl rfl⟩
              obtain ⟨rfl, hndp681⟩ := hp681
              have hndp681 : ¬ v678.toInt = 0 := hndp681
              have hw : pw D A s.heap H locs [wdP cs h r g tf ta pf661 na ma wa cf ca ef ea xf xa] := hw
              refine lv_aload_n S.x S.b d_Mpg_piece_117 rfl (lv_at hl 3 rfl) ?_
              refine lv_iload_n S.x S.b d_Mpg_piece_118 rfl (lv_at hl 2 rfl) ?_
              refine lv_iload_n S.x S.b d_Mpg_piece_119 rfl (lv_at hl 0 rfl) ?_
              refine th_callv (ps0 := [wdP cs h r g tf ta pf na ma wa cf ca ef ea xf xa]) (pr := []) (pcs := [wdP cs h r g tf ta pf661 na ma wa cf ca ef ea xf xa]) (As := [.int z476, .int v663]) (rest := []) (c_mp_functionText l D cs h r g tf ta cf ca ef ea xf xa pf661 na ma wa z476 v663  (show 0 ≤ (pf661 11).toInt from by omega) (show (pf661 11).toInt < (tf 6).toInt from by omega) (show (tf 6).toInt ≤ 2049 from by omega) (show (pf661 12).toInt = 0 from by omega) (show 0 ≤ (pf661 13).toInt from by omega) (show (pf661 13).toInt ≤ (pf661 11).toInt + 10 from by omega) (show (pf661 26).toInt = 0 from by omega) (show -1 ≤ (pf661 25).toInt from by omega) (show (pf661 25).toInt < (pf661 13).toInt from by omega) (show 0 ≤ z476.toInt from by omega) (show z476.toInt ≤ 2 from by omega) (show 0 ≤ v663.toInt from by omega) (show v663.toInt < (tf 6).toInt from by omega) (show 4 ≤ bp ta (pf661 11) from by omega) hlf htk (by assumption) (RzV.le (rz_eq hzg (by omega) (by omega)) (by omega) (by omega) (by omega) (by omega))) S hT hw (oX_call (P := (fun A U H => (oN A U H) ∧ (oP A g U H))) (pr := []) (oG_and oG_N oG_P) hw hA ⟨hN, hP⟩) (px_recv hT hw 0 0 rfl rfl rfl) m12_89 m12_86 m12_88 ms_10_7 m1_21 q_Mpg_functionText ⟨show (8 * 61 + 30) + 1 ≤ (8 * 61 + 32) from by omega, show 8 + (6 + 11) + (220 * 61 + 1360) ≤ (220 * 61 + 1440) from by omega⟩ hl.1 rfl (Nat.le_of_ble_eq_true rfl) d_Mpg_piece_120 ⟨Nat.le_of_ble_eq_true rfl, Nat.le_of_ble_eq_true rfl⟩ hne hlk hA hAe (fun o t h => Or.inr h) ?_ (fun p691 H locs hp691 hw => ?_)
              · exact fun p1 H1 locs1 hp hw => by obtain ⟨pq1, pq2, pq3, pq4, rfl, hq1, hq2⟩ := hp; exact ⟨_, ⟨pq1, pq2, pq3, pq4, rfl, hq1, hq2⟩, hw⟩
              obtain ⟨pf687, na688, ma689, wa690, rfl, e693, e694, e695, e696, e697, e698, e699, e700, e701, e702⟩ := hp691
              have e693 : (pf661 11).toInt + 1 ≤ (pf687 11).toInt := e693
              have e694 : (pf687 11).toInt < (tf 6).toInt := e694
              have e695 : (pf661 13).toInt ≤ (pf687 13).toInt := e695
              have e696 : (pf687 13).toInt - (pf661 13).toInt ≤ (pf687 11).toInt - (pf661 11).toInt := e696
              have e697 : bp ta (pf661 11) + 1 ≤ bp ta (pf687 11) := e697
              have e698 : (pf687 12).toInt = 0 := e698
              have e699 : (pf687 26).toInt = 0 := e699
              have e700 : -1 ≤ (pf687 25).toInt := e700
              have e701 : (pf687 25).toInt < (pf687 13).toInt := e701
              have e702 : RzG ta (tf 6).toInt na688 ma689 (pf687 24) (pf687 25) 0 (pf687 13).toInt (3 * bp ta (pf687 11)) 200 := e702
              have hzg := e702
              have hw : pw D A s.heap H locs [wdP cs h r g tf ta pf687 na688 ma689 wa690 cf ca ef ea xf xa] := hw
              exact th_vret S hr hlk hAe hw (⟨pf687, na688, ma689, wa690, rfl, (show (pf 11).toInt + 1 ≤ (pf687 11).toInt from by omega), (show (pf687 11).toInt < (tf 6).toInt from by omega), (show (pf 13).toInt ≤ (pf687 13).toInt from by omega), (show (pf687 13).toInt - (pf 13).toInt ≤ (pf687 11).toInt - (pf 11).toInt from by omega), (show bp ta (pf 11) + 1 ≤ bp ta (pf687 11) from by omega), (show (pf687 12).toInt = 0 from by omega), (show (pf687 26).toInt = 0 from by omega), (show -1 ≤ (pf687 25).toInt from by omega), (show (pf687 25).toInt < (pf687 13).toInt from by omega), (show RzG ta (tf 6).toInt na688 ma689 (pf687 24) (pf687 25) 0 (pf687 13).toInt (3 * bp ta (pf687 11)) 200 from (RzV.le (rz_eq hzg (by omega) (by omega)) (by omega) (by omega) (by omega) (by omega)))⟩) d_Mpg_piece_123
            · exact absurd c657 (by decide)
  · have nc5 : ¬ v2.toInt = (0 : Int) := mt (i_eq (x := v2) (y := 0)).mpr c5
    refine lv_aload_n S.x S.b d_Mpg_piece_8 rfl (lv_at hl 0 rfl) ?_
    refine th_callv (ps0 := [wdP cs h r g tf ta pf na ma wa cf ca ef ea xf xa]) (pr := []) (pcs := [wdP cs h r g tf ta pf na ma wa cf ca ef ea xf xa]) (As := []) (rest := []) (c_mp_enumeration l D cs h r g tf ta cf ca ef ea xf xa pf na ma wa   (show 0 ≤ (pf 11).toInt from by omega) (show (pf 11).toInt < (tf 6).toInt from by omega) (show (tf 6).toInt ≤ 2049 from by omega) (show (pf 12).toInt = 0 from by omega) (show 0 ≤ (pf 13).toInt from by omega) (show (pf 13).toInt ≤ (pf 11).toInt + 10 from by omega) (show (pf 26).toInt = 0 from by omega) (show -1 ≤ (pf 25).toInt from by omega) (show (pf 25).toInt < (pf 13).toInt from by omega) (show (pf 11).toInt + 1 < (tf 6).toInt from by omega) hlf htk (RzV.le (rz_eq hzg (by omega) (by omega)) (by omega) (by omega) (by omega) (by omega))) S hT hw (oX_call (P := (fun A U H => (oN A U H) ∧ (oP A g U H))) (pr := []) (oG_and oG_N oG_P) hw hA ⟨hN, hP⟩) (px_recv hT hw 0 0 rfl rfl rfl) m11_205 m11_202 m11_204 ms_8_11 m1_21 q_Mpg_enumeration ⟨show (8 * 61 + 24) + 1 ≤ (8 * 61 + 32) from by omega, show 8 + (5 + 11) + (220 * 61 + 1120) ≤ (220 * 61 + 1440) from by omega⟩ hl.1 rfl (Nat.le_of_ble_eq_true rfl) d_Mpg_piece_9 ⟨Nat.le_of_ble_eq_true rfl, Nat.le_of_ble_eq_true rfl⟩ hne hlk hA hAe (fun o t h => Or.inr h) ?_ (fun p711 H locs hp711 hw => ?_)
    · exact fun p1 H1 locs1 hp hw => by obtain ⟨pq1, pq2, pq3, pq4, rfl, hq1, hq2⟩ := hp; exact ⟨_, ⟨pq1, pq2, pq3, pq4, rfl, hq1, hq2⟩, hw⟩
    obtain ⟨pf707, na708, ma709, wa710, rfl, e713, e714, e715, e716, e717, e718, e719, e720, e721, e722⟩ := hp711
    have e713 : (pf 11).toInt + 1 ≤ (pf707 11).toInt := e713
    have e714 : (pf707 11).toInt < (tf 6).toInt := e714
    have e715 : (pf 13).toInt ≤ (pf707 13).toInt := e715
    have e716 : (pf707 13).toInt - (pf 13).toInt ≤ (pf707 11).toInt - (pf 11).toInt := e716
    have e717 : bp ta (pf 11) + 1 ≤ bp ta (pf707 11) := e717
    have e718 : (pf707 12).toInt = 0 := e718
    have e719 : (pf707 26).toInt = 0 := e719
    have e720 : -1 ≤ (pf707 25).toInt := e720
    have e721 : (pf707 25).toInt < (pf707 13).toInt := e721
    have e722 : RzG ta (tf 6).toInt na708 ma709 (pf707 24) (pf707 25) 0 (pf707 13).toInt (3 * bp ta (pf707 11)) 200 := e722
    have hzg := e722
    have hw : pw D A s.heap H locs [wdP cs h r g tf ta pf707 na708 ma709 wa710 cf ca ef ea xf xa] := hw
    exact th_vret S hr hlk hAe hw (⟨pf707, na708, ma709, wa710, rfl, (show (pf 11).toInt + 1 ≤ (pf707 11).toInt from by omega), (show (pf707 11).toInt < (tf 6).toInt from by omega), (show (pf 13).toInt ≤ (pf707 13).toInt from by omega), (show (pf707 13).toInt - (pf 13).toInt ≤ (pf707 11).toInt - (pf 11).toInt from by omega), (show bp ta (pf 11) + 1 ≤ bp ta (pf707 11) from by omega), (show (pf707 12).toInt = 0 from by omega), (show (pf707 26).toInt = 0 from by omega), (show -1 ≤ (pf707 25).toInt from by omega), (show (pf707 25).toInt < (pf707 13).toInt from by omega), (show RzG ta (tf 6).toInt na708 ma709 (pf707 24) (pf707 25) 0 (pf707 13).toInt (3 * bp ta (pf707 11)) 200 from (RzV.le (rz_eq hzg (by omega) (by omega)) (by omega) (by omega) (by omega) (by omega)))⟩) d_Mpg_piece_12
abbrev b_Mpg_whole : ByteArray := prog_16_method_62_code
def y_Mpg_whole : MethodName := ⟨"HomeSystemModel$Program", "whole", "()V"⟩
theorem d_Mpg_whole_0 : decode b_Mpg_whole 0 = .ok (.aload_n 0, 1) := by decide +kernel
theorem d_Mpg_whole_1 : decode b_Mpg_whole 1 = .ok (.getfield 201, 3) := by decide +kernel
theorem d_Mpg_whole_4 : decode b_Mpg_whole 4 = .ok (.aload_n 0, 1) := by decide +kernel
theorem d_Mpg_whole_5 : decode b_Mpg_whole 5 = .ok (.getfield 360, 3) := by decide +kernel
theorem d_Mpg_whole_8 : decode b_Mpg_whole 8 = .ok (.baload, 1) := by decide +kernel
theorem d_Mpg_whole_9 : decode b_Mpg_whole 9 = .ok (.bipush 7, 2) := by decide +kernel
theorem d_Mpg_whole_11 : decode b_Mpg_whole 11 = .ok (.if_icmp .eq 10, 3) := by decide +kernel
theorem d_Mpg_whole_14 : decode b_Mpg_whole 14 = .ok (.aload_n 0, 1) := by decide +kernel
theorem d_Mpg_whole_15 : decode b_Mpg_whole 15 = .ok (.invokevirtual 519, 3) := by decide +kernel
theorem d_Mpg_whole_18 : decode b_Mpg_whole 18 = .ok (.goto (-18), 3) := by decide +kernel
theorem d_Mpg_whole_21 : decode b_Mpg_whole 21 = .ok (.return_, 1) := by decide +kernel
theorem q_Mpg_whole : px_y y_Mpg_whole 0 := by unfold px_y; decide +kernel
set_option maxHeartbeats 4000000 in
set_option maxRecDepth 100000 in
theorem c_mp_whole (l : Launch) (D : va_G) (cs : Nat → ClassId) (h : Nat) (r : Nat → Nat) (g : Nat → Nat → Option Nat) (tf : Nat → Int32) (ta : Nat → Nat → Int32) (cf : Nat → Int32) (ca : Nat → Nat → Int32) (ef : Nat → Int32) (ea : Nat → Nat → Int32) (xf : Nat → Int32) (xa : Nat → Nat → Int32) (pf : Nat → Int32) (na : Nat → Nat → Int32) (ma : Nat → Nat → Int32) (wa : Nat → Nat → Int32)  (g0 : 0 ≤ (pf 11).toInt) (g1 : (pf 11).toInt < (tf 6).toInt) (g2 : (tf 6).toInt ≤ 2049) (g3 : (pf 12).toInt = 0) (g4 : 0 ≤ (pf 13).toInt) (g5 : (pf 13).toInt ≤ (pf 11).toInt + 10) (g6 : (pf 26).toInt = 0) (g7 : -1 ≤ (pf 25).toInt) (g8 : (pf 25).toInt < (pf 13).toInt) (hlf : l.flags = pinnedFlags ++ [noTraceFlag]) (htk : TkI tf ta) (hzg : RzG ta (tf 6).toInt na ma (pf 24) (pf 25) 0 (pf 13).toInt (3 * bp ta (pf 11)) 200) : ThV l y_Mpg_whole b_Mpg_whole 1 D cs (8 * 61 + 33) (220 * 61 + 1500) [.ref h] [wdP cs h r g tf ta pf na ma wa cf ca ef ea xf xa] (oX (fun A U H => (oN A U H) ∧ (oP A g U H)) [wdP cs h r g tf ta pf na ma wa cf ca ef ea xf xa]) "java/lang/IllegalArgumentException" (fun ps => ∃ (pf' : Nat → Int32) (na' : Nat → Nat → Int32) (ma' : Nat → Nat → Int32) (wa' : Nat → Nat → Int32), (ps = [wdP cs h r g tf ta pf' na' ma' wa' cf ca ef ea xf xa]) ∧ ((pf 11).toInt ≤ (pf' 11).toInt) ∧ ((pf' 11).toInt < (tf 6).toInt) ∧ ((pf 13).toInt ≤ (pf' 13).toInt) ∧ ((pf' 13).toInt ≤ (pf' 11).toInt + 10) ∧ ((pf' 12).toInt = 0) ∧ ((pf' 26).toInt = 0) ∧ (-1 ≤ (pf' 25).toInt) ∧ ((pf' 25).toInt < (pf' 13).toInt) ∧ (RzG ta (tf 6).toInt na' ma' (pf' 24) (pf' 25) 0 (pf' 13).toInt (3 * bp ta (pf' 11)) 200)) (fun ps => ∃ (pf' : Nat → Int32) (na' : Nat → Nat → Int32) (ma' : Nat → Nat → Int32) (wa' : Nat → Nat → Int32), ps = [wdP cs h r g tf ta pf' na' ma' wa' cf ca ef ea xf xa] ∧ 0 ≤ (pf' 11).toInt ∧ (pf' 11).toInt + 1 ≤ (tf 6).toInt) := by
  refine th_enter (by decide) (Nat.le_of_ble_eq_true rfl) ?_
  intro p e s m below meth c A ls hAe S hr hlk hnm hA hT hX hw hl hne hadm
  have hl : lv_has ls 1 [(0, .ref h)] := hl
  have cst7 : (7 : Int32).toInt = 7 := rfl
  have hX : (fun A U H => (oN A U H) ∧ (oP A g U H)) A s s.heap := by rw [hAe]; exact hX
  obtain ⟨hN, hP⟩ := hX
  have hZ := hP.1
  have hF0 := hP.2.1
  obtain ⟨lv, hlv⟩ : ∃ y : Nat, y = 61 := ⟨_, rfl⟩
  have hfb : FrB 0 na ma na ma := FrB.rf
  have hfw : FrW (pf 26).toInt wa wa := FrW.rf
  have hb11 := tk_b htk (x := (pf 11)) (by omega) (by omega)
  have J0 : ∀ (n_0 : Nat) (pf_0 : Nat → Int32) (na_0 : Nat → Nat → Int32) (ma_0 : Nat → Nat → Int32) (wa_0 : Nat → Nat → Int32) (H : Heap) (locs : List Loc) (ls : Array Slot), ((pf 11).toInt ≤ (pf_0 11).toInt) → ((pf_0 11).toInt < (tf 6).toInt) → ((pf 13).toInt ≤ (pf_0 13).toInt) → ((pf_0 13).toInt ≤ (pf_0 11).toInt + 10) → ((pf_0 12).toInt = 0) → ((pf_0 26).toInt = 0) → (-1 ≤ (pf_0 25).toInt) → ((pf_0 25).toInt < (pf_0 13).toInt) → (RzG ta (tf 6).toInt na_0 ma_0 (pf_0 24) (pf_0 25) 0 (pf_0 13).toInt (3 * bp ta (pf_0 11)) 200) → (tf 6).toInt - (pf_0 11).toInt < (n_0 : Int) → pw D A s.heap H locs [wdP cs h r g tf ta pf_0 na_0 ma_0 wa_0 cf ca ef ea xf xa] → lv_has ls 1 [(0, .ref h)] → W p l e { frames := (8 * 61 + 33), cells := 1, slots := 6, locals := (220 * 61 + 1500) } s m [.ref h].toArray below meth c H locs 0 0 (tx_MQ below (thQv D (va_A ([wdP cs h r g tf ta pf na ma wa cf ca ef ea xf xa] : List va_W).flatten s.heap.size) "java/lang/IllegalArgumentException" (fun ps => ∃ (pf' : Nat → Int32) (na' : Nat → Nat → Int32) (ma' : Nat → Nat → Int32) (wa' : Nat → Nat → Int32), (ps = [wdP cs h r g tf ta pf' na' ma' wa' cf ca ef ea xf xa]) ∧ ((pf 11).toInt ≤ (pf' 11).toInt) ∧ ((pf' 11).toInt < (tf 6).toInt) ∧ ((pf 13).toInt ≤ (pf' 13).toInt) ∧ ((pf' 13).toInt ≤ (pf' 11).toInt + 10) ∧ ((pf' 12).toInt = 0) ∧ ((pf' 26).toInt = 0) ∧ (-1 ≤ (pf' 25).toInt) ∧ ((pf' 25).toInt < (pf' 13).toInt) ∧ (RzG ta (tf 6).toInt na' ma' (pf' 24) (pf' 25) 0 (pf' 13).toInt (3 * bp ta (pf' 11)) 200)) (fun ps => ∃ (pf' : Nat → Int32) (na' : Nat → Nat → Int32) (ma' : Nat → Nat → Int32) (wa' : Nat → Nat → Int32), ps = [wdP cs h r g tf ta pf' na' ma' wa' cf ca ef ea xf xa] ∧ 0 ≤ (pf' 11).toInt ∧ (pf' 11).toInt + 1 ≤ (tf 6).toInt) s.heap.size (tot s.heap)) [.ref h].toArray s 1 6 A) (F0 m 0 ls []) := by
    intro  n_0
    induction n_0 with
    | zero =>
      intro pf_0 na_0 ma_0 wa_0 H locs ls k0_0 k0_1 k0_2 k0_3 k0_4 k0_5 k0_6 k0_7 k0_8 hm hw hl
      have hzg := k0_8
      exact absurd hm (by omega)
    | succ n_0 ih0 =>
      intro pf_0 na_0 ma_0 wa_0 H locs ls k0_0 k0_1 k0_2 k0_3 k0_4 k0_5 k0_6 k0_7 k0_8 hm hw hl
      have hzg := k0_8
      refine lv_aload_n S.x S.b d_Mpg_whole_0 rfl (lv_at hl 0 rfl) ?_
      refine px_get S k_Mpg hT hw 0 0 9 (v := .ref (r 9)) rfl rfl rfl (by decide) m9_233 d_Mpg_whole_1 ?_
      refine lv_aload_n S.x S.b d_Mpg_whole_4 rfl (lv_at hl 0 rfl) ?_
      refine px_get S k_Mpg hT hw 0 0 11 (v := .int (pf_0 11)) rfl rfl rfl (by decide) m9_235 d_Mpg_whole_5 ?_
      refine px_bald S hT hw 0 8 (n := 2060) (f := (ta 9)) rfl gp_9 (x := (pf_0 11)) (vp_in_iff.mpr (by constructor <;> omega)) d_Mpg_whole_8 ?_
      refine lv_topi (fun z1 ez1 => ?_)
      have lz1 := Int32.le_toInt z1
      have uz1 := Int32.toInt_lt z1
      have rz1 := tk_s htk (x := (pf_0 11)) (by omega) (by omega) ez1
      refine lv_bipush (v := 7) S.x S.b d_Mpg_whole_9 (by decide) ?_
      refine lv_icmp_eq (tgt := 21) S.x S.b d_Mpg_whole_11 (by decide) (fun c2 => ?_) (fun c2 => ?_)
      · have nc2 : z1.toInt = (7 : Int) := (i_eq (x := z1) (y := 7)).mp c2
        exact th_vret S hr hlk hAe hw (⟨pf_0, na_0, ma_0, wa_0, rfl, (show (pf 11).toInt ≤ (pf_0 11).toInt from by omega), (show (pf_0 11).toInt < (tf 6).toInt from by omega), (show (pf 13).toInt ≤ (pf_0 13).toInt from by omega), (show (pf_0 13).toInt ≤ (pf_0 11).toInt + 10 from by omega), (show (pf_0 12).toInt = 0 from by omega), (show (pf_0 26).toInt = 0 from by omega), (show -1 ≤ (pf_0 25).toInt from by omega), (show (pf_0 25).toInt < (pf_0 13).toInt from by omega), (show RzG ta (tf 6).toInt na_0 ma_0 (pf_0 24) (pf_0 25) 0 (pf_0 13).toInt (3 * bp ta (pf_0 11)) 200 from (RzV.le (rz_eq hzg (by omega) (by omega)) (by omega) (by omega) (by omega) (by omega)))⟩) d_Mpg_whole_21
      · have nc2 : ¬ z1.toInt = (7 : Int) := mt (i_eq (x := z1) (y := 7)).mpr c2
        refine lv_aload_n S.x S.b d_Mpg_whole_14 rfl (lv_at hl 0 rfl) ?_
        refine th_callv (ps0 := [wdP cs h r g tf ta pf na ma wa cf ca ef ea xf xa]) (pr := []) (pcs := [wdP cs h r g tf ta pf_0 na_0 ma_0 wa_0 cf ca ef ea xf xa]) (As := []) (rest := []) (c_mp_piece l D cs h r g tf ta cf ca ef ea xf xa pf_0 na_0 ma_0 wa_0   (show 0 ≤ (pf_0 11).toInt from by omega) (show (pf_0 11).toInt < (tf 6).toInt from by omega) (show (tf 6).toInt ≤ 2049 from by omega) (show (pf_0 12).toInt = 0 from by omega) (show 0 ≤ (pf_0 13).toInt from by omega) (show (pf_0 13).toInt ≤ (pf_0 11).toInt + 10 from by omega) (show (pf_0 26).toInt = 0 from by omega) (show -1 ≤ (pf_0 25).toInt from by omega) (show (pf_0 25).toInt < (pf_0 13).toInt from by omega) hlf htk (RzV.le (rz_eq hzg (by omega) (by omega)) (by omega) (by omega) (by omega) (by omega))) S hT hw (oX_call (P := (fun A U H => (oN A U H) ∧ (oP A g U H))) (pr := []) (oG_and oG_N oG_P) hw hA ⟨hN, hP⟩) (px_recv hT hw 0 0 rfl rfl rfl) m11_197 m11_194 m11_196 ms_8_9 m1_21 q_Mpg_piece ⟨show (8 * 61 + 32) + 1 ≤ (8 * 61 + 33) from by omega, show 8 + (4 + 11) + (220 * 61 + 1440) ≤ (220 * 61 + 1500) from by omega⟩ hl.1 rfl (Nat.le_of_ble_eq_true rfl) d_Mpg_whole_15 ⟨Nat.le_of_ble_eq_true rfl, Nat.le_of_ble_eq_true rfl⟩ hne hlk hA hAe (fun o t h => Or.inr h) ?_ (fun p11 H locs hp11 hw => ?_)
        · exact fun p1 H1 locs1 hp hw => by obtain ⟨pq1, pq2, pq3, pq4, rfl, hq1, hq2⟩ := hp; exact ⟨_, ⟨pq1, pq2, pq3, pq4, rfl, hq1, hq2⟩, hw⟩
        obtain ⟨pf7, na8, ma9, wa10, rfl, e13, e14, e15, e16, e17, e18, e19, e20, e21, e22⟩ := hp11
        have e13 : (pf_0 11).toInt + 1 ≤ (pf7 11).toInt := e13
        have e14 : (pf7 11).toInt < (tf 6).toInt := e14
        have e15 : (pf_0 13).toInt ≤ (pf7 13).toInt := e15
        have e16 : (pf7 13).toInt - (pf_0 13).toInt ≤ (pf7 11).toInt - (pf_0 11).toInt := e16
        have e17 : bp ta (pf_0 11) + 1 ≤ bp ta (pf7 11) := e17
        have e18 : (pf7 12).toInt = 0 := e18
        have e19 : (pf7 26).toInt = 0 := e19
        have e20 : -1 ≤ (pf7 25).toInt := e20
        have e21 : (pf7 25).toInt < (pf7 13).toInt := e21
        have e22 : RzG ta (tf 6).toInt na8 ma9 (pf7 24) (pf7 25) 0 (pf7 13).toInt (3 * bp ta (pf7 11)) 200 := e22
        have hzg := e22
        have hw : pw D A s.heap H locs [wdP cs h r g tf ta pf7 na8 ma9 wa10 cf ca ef ea xf xa] := hw
        refine lv_goto (tgt := 0) S.x S.b d_Mpg_whole_18 (by decide) ?_
        exact ih0 pf7 na8 ma9 wa10 _ _ ls (show (pf 11).toInt ≤ (pf7 11).toInt from by omega) (show (pf7 11).toInt < (tf 6).toInt from by omega) (show (pf 13).toInt ≤ (pf7 13).toInt from by omega) (show (pf7 13).toInt ≤ (pf7 11).toInt + 10 from by omega) (show (pf7 12).toInt = 0 from by omega) (show (pf7 26).toInt = 0 from by omega) (show -1 ≤ (pf7 25).toInt from by omega) (show (pf7 25).toInt < (pf7 13).toInt from by omega) (show RzG ta (tf 6).toInt na8 ma9 (pf7 24) (pf7 25) 0 (pf7 13).toInt (3 * bp ta (pf7 11)) 200 from (RzV.le (rz_eq hzg (by omega) (by omega)) (by omega) (by omega) (by omega) (by omega))) (show (tf 6).toInt - (pf7 11).toInt < (n_0 : Int) from by omega) hw (lv_sub hl [0] rfl)
  refine lv_aload_n S.x S.b d_Mpg_whole_0 rfl (lv_at hl 0 rfl) ?_
  refine px_get S k_Mpg hT hw 0 0 9 (v := .ref (r 9)) rfl rfl rfl (by decide) m9_233 d_Mpg_whole_1 ?_
  refine lv_aload_n S.x S.b d_Mpg_whole_4 rfl (lv_at hl 0 rfl) ?_
  refine px_get S k_Mpg hT hw 0 0 11 (v := .int (pf 11)) rfl rfl rfl (by decide) m9_235 d_Mpg_whole_5 ?_
  refine px_bald S hT hw 0 8 (n := 2060) (f := (ta 9)) rfl gp_9 (x := (pf 11)) (vp_in_iff.mpr (by constructor <;> omega)) d_Mpg_whole_8 ?_
  refine lv_topi (fun z23 ez23 => ?_)
  have lz23 := Int32.le_toInt z23
  have uz23 := Int32.toInt_lt z23
  have rz23 := tk_s htk (x := (pf 11)) (by omega) (by omega) ez23
  refine lv_bipush (v := 7) S.x S.b d_Mpg_whole_9 (by decide) ?_
  refine lv_icmp_eq (tgt := 21) S.x S.b d_Mpg_whole_11 (by decide) (fun c24 => ?_) (fun c24 => ?_)
  · have nc24 : z23.toInt = (7 : Int) := (i_eq (x := z23) (y := 7)).mp c24
    exact th_vret S hr hlk hAe hw (⟨pf, na, ma, wa, rfl, (show (pf 11).toInt ≤ (pf 11).toInt from by omega), (show (pf 11).toInt < (tf 6).toInt from by omega), (show (pf 13).toInt ≤ (pf 13).toInt from by omega), (show (pf 13).toInt ≤ (pf 11).toInt + 10 from by omega), (show (pf 12).toInt = 0 from by omega), (show (pf 26).toInt = 0 from by omega), (show -1 ≤ (pf 25).toInt from by omega), (show (pf 25).toInt < (pf 13).toInt from by omega), (show RzG ta (tf 6).toInt na ma (pf 24) (pf 25) 0 (pf 13).toInt (3 * bp ta (pf 11)) 200 from (RzV.le (rz_eq hzg (by omega) (by omega)) (by omega) (by omega) (by omega) (by omega)))⟩) d_Mpg_whole_21
  · have nc24 : ¬ z23.toInt = (7 : Int) := mt (i_eq (x := z23) (y := 7)).mpr c24
    refine lv_aload_n S.x S.b d_Mpg_whole_14 rfl (lv_at hl 0 rfl) ?_
    refine th_callv (ps0 := [wdP cs h r g tf ta pf na ma wa cf ca ef ea xf xa]) (pr := []) (pcs := [wdP cs h r g tf ta pf na ma wa cf ca ef ea xf xa]) (As := []) (rest := []) (c_mp_piece l D cs h r g tf ta cf ca ef ea xf xa pf na ma wa   (show 0 ≤ (pf 11).toInt from by omega) (show (pf 11).toInt < (tf 6).toInt from by omega) (show (tf 6).toInt ≤ 2049 from by omega) (show (pf 12).toInt = 0 from by omega) (show 0 ≤ (pf 13).toInt from by omega) (show (pf 13).toInt ≤ (pf 11).toInt + 10 from by omega) (show (pf 26).toInt = 0 from by omega) (show -1 ≤ (pf 25).toInt from by omega) (show (pf 25).toInt < (pf 13).toInt from by omega) hlf htk (RzV.le (rz_eq hzg (by omega) (by omega)) (by omega) (by omega) (by omega) (by omega))) S hT hw (oX_call (P := (fun A U H => (oN A U H) ∧ (oP A g U H))) (pr := []) (oG_and oG_N oG_P) hw hA ⟨hN, hP⟩) (px_recv hT hw 0 0 rfl rfl rfl) m11_197 m11_194 m11_196 ms_8_9 m1_21 q_Mpg_piece ⟨show (8 * 61 + 32) + 1 ≤ (8 * 61 + 33) from by omega, show 8 + (4 + 11) + (220 * 61 + 1440) ≤ (220 * 61 + 1500) from by omega⟩ hl.1 rfl (Nat.le_of_ble_eq_true rfl) d_Mpg_whole_15 ⟨Nat.le_of_ble_eq_true rfl, Nat.le_of_ble_eq_true rfl⟩ hne hlk hA hAe (fun o t h => Or.inr h) ?_ (fun p33 H locs hp33 hw => ?_)
    · exact fun p1 H1 locs1 hp hw => by obtain ⟨pq1, pq2, pq3, pq4, rfl, hq1, hq2⟩ := hp; exact ⟨_, ⟨pq1, pq2, pq3, pq4, rfl, hq1, hq2⟩, hw⟩
    obtain ⟨pf29, na30, ma31, wa32, rfl, e35, e36, e37, e38, e39, e40, e41, e42, e43, e44⟩ := hp33
    have e35 : (pf 11).toInt + 1 ≤ (pf29 11).toInt := e35
    have e36 : (pf29 11).toInt < (tf 6).toInt := e36
    have e37 : (pf 13).toInt ≤ (pf29 13).toInt := e37
    have e38 : (pf29 13).toInt - (pf 13).toInt ≤ (pf29 11).toInt - (pf 11).toInt := e38
    have e39 : bp ta (pf 11) + 1 ≤ bp ta (pf29 11) := e39
    have e40 : (pf29 12).toInt = 0 := e40
    have e41 : (pf29 26).toInt = 0 := e41
    have e42 : -1 ≤ (pf29 25).toInt := e42
    have e43 : (pf29 25).toInt < (pf29 13).toInt := e43
    have e44 : RzG ta (tf 6).toInt na30 ma31 (pf29 24) (pf29 25) 0 (pf29 13).toInt (3 * bp ta (pf29 11)) 200 := e44
    have hzg := e44
    have hw : pw D A s.heap H locs [wdP cs h r g tf ta pf29 na30 ma31 wa32 cf ca ef ea xf xa] := hw
    refine lv_goto (tgt := 0) S.x S.b d_Mpg_whole_18 (by decide) ?_
    exact J0 (((tf 6).toInt - (pf29 11).toInt).toNat + 1) pf29 na30 ma31 wa32 _ _ ls (show (pf 11).toInt ≤ (pf29 11).toInt from by omega) (show (pf29 11).toInt < (tf 6).toInt from by omega) (show (pf 13).toInt ≤ (pf29 13).toInt from by omega) (show (pf29 13).toInt ≤ (pf29 11).toInt + 10 from by omega) (show (pf29 12).toInt = 0 from by omega) (show (pf29 26).toInt = 0 from by omega) (show -1 ≤ (pf29 25).toInt from by omega) (show (pf29 25).toInt < (pf29 13).toInt from by omega) (show RzG ta (tf 6).toInt na30 ma31 (pf29 24) (pf29 25) 0 (pf29 13).toInt (3 * bp ta (pf29 11)) 200 from (RzV.le (rz_eq hzg (by omega) (by omega)) (by omega) (by omega) (by omega) (by omega))) (show (tf 6).toInt - (pf29 11).toInt < (((((tf 6).toInt - (pf29 11).toInt).toNat + 1 : Nat) : Int) : Int) from by omega) hw (lv_sub hl [0] rfl)
