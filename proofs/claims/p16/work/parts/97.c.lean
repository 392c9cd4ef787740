theorem m12_82 : Cond.methodLink "HomeSystemModel$Program" 473 ⟨"HomeSystemModel$Program", "isType", "()Z"⟩ ∈ AL := AL_12 (List.mem_of_getElem? (i := 82) rfl) rfl
theorem m12_85 : Cond.code ⟨"HomeSystemModel$Program", "isType", "()Z"⟩ prog_16_method_48_code 1 (Option.some FieldType.boolean) ∈ AL := AL_12 (List.mem_of_getElem? (i := 85) rfl) rfl
theorem ms_10_6 : Cond.selects "HomeSystemModel$Program" ⟨"HomeSystemModel$Program", "isType", "()Z"⟩ ⟨"HomeSystemModel$Program", "isType", "()Z"⟩ ∈ AL := AL_p (q := (⟨"HomeSystemModel$Program", "isType", "()Z"⟩, 69)) (by unfold lw_privs; exact List.mem_append_right _ (List.mem_append_right _ (List.mem_append_right _ (List.mem_append_right _ (List.mem_append_right _ (List.mem_append_right _ (List.mem_append_right _ (List.mem_append_right _ (List.mem_append_right _ (List.mem_append_left _ (List.mem_of_getElem? (i := 6) rfl)))))))))))
theorem m12_84 : Cond.instanceMethod ⟨"HomeSystemModel$Program", "isType", "()Z"⟩ ∈ AL := AL_12 (List.mem_of_getElem? (i := 84) rfl) rfl
theorem m12_102 : Cond.methodLink "HomeSystemModel$Program" 476 ⟨"HomeSystemModel$Program", "declaration", "()I"⟩ ∈ AL := AL_12 (List.mem_of_getElem? (i := 102) rfl) rfl
theorem m12_105 : Cond.code ⟨"HomeSystemModel$Program", "declaration", "()I"⟩ prog_16_method_47_code 2 (Option.some FieldType.int) ∈ AL := AL_12 (List.mem_of_getElem? (i := 105) rfl) rfl
theorem ms_10_11 : Cond.selects "HomeSystemModel$Program" ⟨"HomeSystemModel$Program", "declaration", "()I"⟩ ⟨"HomeSystemModel$Program", "declaration", "()I"⟩ ∈ AL := AL_p (q := (⟨"HomeSystemModel$Program", "declaration", "()I"⟩, 69)) (by unfold lw_privs; exact List.mem_append_right _ (List.mem_append_right _ (List.mem_append_right _ (List.mem_append_right _ (List.mem_append_right _ (List.mem_append_right _ (List.mem_append_right _ (List.mem_append_right _ (List.mem_append_right _ (List.mem_append_left _ (List.mem_of_getElem? (i := 11) rfl)))))))))))
theorem m12_104 : Cond.instanceMethod ⟨"HomeSystemModel$Program", "declaration", "()I"⟩ ∈ AL := AL_12 (List.mem_of_getElem? (i := 104) rfl) rfl
abbrev b_Mpg_forLoop : ByteArray := prog_16_method_55_code
def y_Mpg_forLoop : MethodName := ⟨"HomeSystemModel$Program", "forLoop", "()I"⟩
theorem d_Mpg_forLoop_0 : decode b_Mpg_forLoop 0 = .ok (.aload_n 0, 1) := by decide +kernel
theorem d_Mpg_forLoop_1 : decode b_Mpg_forLoop 1 = .ok (.bipush 27, 2) := by decide +kernel
theorem d_Mpg_forLoop_3 : decode b_Mpg_forLoop 3 = .ok (.aload_n 0, 1) := by decide +kernel
theorem d_Mpg_forLoop_4 : decode b_Mpg_forLoop 4 = .ok (.getfield 360, 3) := by decide +kernel
theorem d_Mpg_forLoop_7 : decode b_Mpg_forLoop 7 = .ok (.invokevirtual 406, 3) := by decide +kernel
theorem d_Mpg_forLoop_10 : decode b_Mpg_forLoop 10 = .ok (.istore_n 1, 1) := by decide +kernel
theorem d_Mpg_forLoop_11 : decode b_Mpg_forLoop 11 = .ok (.aload_n 0, 1) := by decide +kernel
theorem d_Mpg_forLoop_12 : decode b_Mpg_forLoop 12 = .ok (.invokevirtual 383, 3) := by decide +kernel
theorem d_Mpg_forLoop_15 : decode b_Mpg_forLoop 15 = .ok (.aload_n 0, 1) := by decide +kernel
theorem d_Mpg_forLoop_16 : decode b_Mpg_forLoop 16 = .ok (.ldc 87, 2) := by decide +kernel
theorem d_Mpg_forLoop_18 : decode b_Mpg_forLoop 18 = .ok (.invokevirtual 457, 3) := by decide +kernel
theorem d_Mpg_forLoop_21 : decode b_Mpg_forLoop 21 = .ok (.aload_n 0, 1) := by decide +kernel
theorem d_Mpg_forLoop_22 : decode b_Mpg_forLoop 22 = .ok (.invokevirtual 473, 3) := by decide +kernel
theorem d_Mpg_forLoop_25 : decode b_Mpg_forLoop 25 = .ok (.ifCond .eq 16, 3) := by decide +kernel
theorem d_Mpg_forLoop_28 : decode b_Mpg_forLoop 28 = .ok (.aload_n 0, 1) := by decide +kernel
theorem d_Mpg_forLoop_29 : decode b_Mpg_forLoop 29 = .ok (.getfield 216, 3) := by decide +kernel
theorem d_Mpg_forLoop_32 : decode b_Mpg_forLoop 32 = .ok (.iload_n 1, 1) := by decide +kernel
theorem d_Mpg_forLoop_33 : decode b_Mpg_forLoop 33 = .ok (.aload_n 0, 1) := by decide +kernel
theorem d_Mpg_forLoop_34 : decode b_Mpg_forLoop 34 = .ok (.invokevirtual 476, 3) := by decide +kernel
theorem d_Mpg_forLoop_37 : decode b_Mpg_forLoop 37 = .ok (.iastore, 1) := by decide +kernel
theorem d_Mpg_forLoop_38 : decode b_Mpg_forLoop 38 = .ok (.goto 46, 3) := by decide +kernel
theorem d_Mpg_forLoop_41 : decode b_Mpg_forLoop 41 = .ok (.aload_n 0, 1) := by decide +kernel
theorem d_Mpg_forLoop_42 : decode b_Mpg_forLoop 42 = .ok (.ldc 101, 2) := by decide +kernel
theorem d_Mpg_forLoop_44 : decode b_Mpg_forLoop 44 = .ok (.invokevirtual 370, 3) := by decide +kernel
theorem d_Mpg_forLoop_47 : decode b_Mpg_forLoop 47 = .ok (.ifCond .ne 37, 3) := by decide +kernel
theorem d_Mpg_forLoop_50 : decode b_Mpg_forLoop 50 = .ok (.aload_n 0, 1) := by decide +kernel
theorem d_Mpg_forLoop_51 : decode b_Mpg_forLoop 51 = .ok (.bipush 22, 2) := by decide +kernel
theorem d_Mpg_forLoop_53 : decode b_Mpg_forLoop 53 = .ok (.aload_n 0, 1) := by decide +kernel
theorem d_Mpg_forLoop_54 : decode b_Mpg_forLoop 54 = .ok (.getfield 360, 3) := by decide +kernel
theorem d_Mpg_forLoop_57 : decode b_Mpg_forLoop 57 = .ok (.invokevirtual 406, 3) := by decide +kernel
theorem d_Mpg_forLoop_60 : decode b_Mpg_forLoop 60 = .ok (.istore_n 2, 1) := by decide +kernel
theorem d_Mpg_forLoop_61 : decode b_Mpg_forLoop 61 = .ok (.aload_n 0, 1) := by decide +kernel
theorem d_Mpg_forLoop_62 : decode b_Mpg_forLoop 62 = .ok (.getfield 216, 3) := by decide +kernel
theorem d_Mpg_forLoop_65 : decode b_Mpg_forLoop 65 = .ok (.iload_n 2, 1) := by decide +kernel
theorem d_Mpg_forLoop_66 : decode b_Mpg_forLoop 66 = .ok (.aload_n 0, 1) := by decide +kernel
theorem d_Mpg_forLoop_67 : decode b_Mpg_forLoop 67 = .ok (.invokevirtual 403, 3) := by decide +kernel
theorem d_Mpg_forLoop_70 : decode b_Mpg_forLoop 70 = .ok (.iastore, 1) := by decide +kernel
theorem d_Mpg_forLoop_71 : decode b_Mpg_forLoop 71 = .ok (.aload_n 0, 1) := by decide +kernel
theorem d_Mpg_forLoop_72 : decode b_Mpg_forLoop 72 = .ok (.getfield 216, 3) := by decide +kernel
theorem d_Mpg_forLoop_75 : decode b_Mpg_forLoop 75 = .ok (.iload_n 1, 1) := by decide +kernel
theorem d_Mpg_forLoop_76 : decode b_Mpg_forLoop 76 = .ok (.iload_n 2, 1) := by decide +kernel
theorem d_Mpg_forLoop_77 : decode b_Mpg_forLoop 77 = .ok (.iastore, 1) := by decide +kernel
theorem d_Mpg_forLoop_78 : decode b_Mpg_forLoop 78 = .ok (.aload_n 0, 1) := by decide +kernel
theorem d_Mpg_forLoop_79 : decode b_Mpg_forLoop 79 = .ok (.ldc 101, 2) := by decide +kernel
theorem d_Mpg_forLoop_81 : decode b_Mpg_forLoop 81 = .ok (.invokevirtual 386, 3) := by decide +kernel
theorem d_Mpg_forLoop_84 : decode b_Mpg_forLoop 84 = .ok (.aload_n 0, 1) := by decide +kernel
theorem d_Mpg_forLoop_85 : decode b_Mpg_forLoop 85 = .ok (.ldc 101, 2) := by decide +kernel
theorem d_Mpg_forLoop_87 : decode b_Mpg_forLoop 87 = .ok (.invokevirtual 366, 3) := by decide +kernel
theorem d_Mpg_forLoop_90 : decode b_Mpg_forLoop 90 = .ok (.ifCond .ne 13, 3) := by decide +kernel
theorem d_Mpg_forLoop_93 : decode b_Mpg_forLoop 93 = .ok (.aload_n 0, 1) := by decide +kernel
theorem d_Mpg_forLoop_94 : decode b_Mpg_forLoop 94 = .ok (.getfield 219, 3) := by decide +kernel
theorem d_Mpg_forLoop_97 : decode b_Mpg_forLoop 97 = .ok (.iload_n 1, 1) := by decide +kernel
theorem d_Mpg_forLoop_98 : decode b_Mpg_forLoop 98 = .ok (.aload_n 0, 1) := by decide +kernel
theorem d_Mpg_forLoop_99 : decode b_Mpg_forLoop 99 = .ok (.invokevirtual 403, 3) := by decide +kernel
theorem d_Mpg_forLoop_102 : decode b_Mpg_forLoop 102 = .ok (.iastore, 1) := by decide +kernel
theorem d_Mpg_forLoop_103 : decode b_Mpg_forLoop 103 = .ok (.aload_n 0, 1) := by decide +kernel
theorem d_Mpg_forLoop_104 : decode b_Mpg_forLoop 104 = .ok (.ldc 101, 2) := by decide +kernel
theorem d_Mpg_forLoop_106 : decode b_Mpg_forLoop 106 = .ok (.invokevirtual 386, 3) := by decide +kernel
theorem d_Mpg_forLoop_109 : decode b_Mpg_forLoop 109 = .ok (.aload_n 0, 1) := by decide +kernel
theorem d_Mpg_forLoop_110 : decode b_Mpg_forLoop 110 = .ok (.ldc 89, 2) := by decide +kernel
theorem d_Mpg_forLoop_112 : decode b_Mpg_forLoop 112 = .ok (.invokevirtual 366, 3) := by decide +kernel
theorem d_Mpg_forLoop_115 : decode b_Mpg_forLoop 115 = .ok (.ifCond .ne 13, 3) := by decide +kernel
theorem d_Mpg_forLoop_118 : decode b_Mpg_forLoop 118 = .ok (.aload_n 0, 1) := by decide +kernel
theorem d_Mpg_forLoop_119 : decode b_Mpg_forLoop 119 = .ok (.getfield 222, 3) := by decide +kernel
theorem d_Mpg_forLoop_122 : decode b_Mpg_forLoop 122 = .ok (.iload_n 1, 1) := by decide +kernel
theorem d_Mpg_forLoop_123 : decode b_Mpg_forLoop 123 = .ok (.aload_n 0, 1) := by decide +kernel
theorem d_Mpg_forLoop_124 : decode b_Mpg_forLoop 124 = .ok (.invokevirtual 403, 3) := by decide +kernel
theorem d_Mpg_forLoop_127 : decode b_Mpg_forLoop 127 = .ok (.iastore, 1) := by decide +kernel
theorem d_Mpg_forLoop_128 : decode b_Mpg_forLoop 128 = .ok (.aload_n 0, 1) := by decide +kernel
theorem d_Mpg_forLoop_129 : decode b_Mpg_forLoop 129 = .ok (.ldc 89, 2) := by decide +kernel
theorem d_Mpg_forLoop_131 : decode b_Mpg_forLoop 131 = .ok (.invokevirtual 439, 3) := by decide +kernel
theorem d_Mpg_forLoop_134 : decode b_Mpg_forLoop 134 = .ok (.aload_n 0, 1) := by decide +kernel
theorem d_Mpg_forLoop_135 : decode b_Mpg_forLoop 135 = .ok (.getfield 225, 3) := by decide +kernel
theorem d_Mpg_forLoop_138 : decode b_Mpg_forLoop 138 = .ok (.iload_n 1, 1) := by decide +kernel
theorem d_Mpg_forLoop_139 : decode b_Mpg_forLoop 139 = .ok (.aload_n 0, 1) := by decide +kernel
theorem d_Mpg_forLoop_140 : decode b_Mpg_forLoop 140 = .ok (.invokevirtual 463, 3) := by decide +kernel
theorem d_Mpg_forLoop_143 : decode b_Mpg_forLoop 143 = .ok (.iastore, 1) := by decide +kernel
theorem d_Mpg_forLoop_144 : decode b_Mpg_forLoop 144 = .ok (.aload_n 0, 1) := by decide +kernel
theorem d_Mpg_forLoop_145 : decode b_Mpg_forLoop 145 = .ok (.dup, 1) := by decide +kernel
theorem d_Mpg_forLoop_146 : decode b_Mpg_forLoop 146 = .ok (.getfield 380, 3) := by decide +kernel
theorem d_Mpg_forLoop_149 : decode b_Mpg_forLoop 149 = .ok (.iconst 1, 1) := by decide +kernel
theorem d_Mpg_forLoop_150 : decode b_Mpg_forLoop 150 = .ok (.isub, 1) := by decide +kernel
theorem d_Mpg_forLoop_151 : decode b_Mpg_forLoop 151 = .ok (.putfield 380, 3) := by decide +kernel
theorem d_Mpg_forLoop_154 : decode b_Mpg_forLoop 154 = .ok (.iload_n 1, 1) := by decide +kernel
theorem d_Mpg_forLoop_155 : decode b_Mpg_forLoop 155 = .ok (.ireturn, 1) := by decide +kernel
theorem q_Mpg_forLoop : px_y y_Mpg_forLoop 0 := by unfold px_y; decide +kernel
set_option maxHeartbeats 4000000 in
set_option maxRecDepth 100000 in
theorem c_mp_forLoop (l : Launch) (D : va_G) (cs : Nat → ClassId) (h : Nat) (r : Nat → Nat) (g : Nat → Nat → Option Nat) (tf : Nat → Int32) (ta : Nat → Nat → Int32) (cf : Nat → Int32) (ca : Nat → Nat → Int32) (ef : Nat → Int32) (ea : Nat → Nat → Int32) (xf : Nat → Int32) (xa : Nat → Nat → Int32) (pf : Nat → Int32) (na : Nat → Nat → Int32) (ma : Nat → Nat → Int32) (wa : Nat → Nat → Int32) (lv : Nat) (g0 : 0 ≤ (pf 11).toInt) (g1 : (pf 11).toInt < (tf 6).toInt) (g2 : (tf 6).toInt ≤ 2049) (g3 : 0 ≤ (pf 12).toInt) (g4 : (pf 12).toInt ≤ 60) (g5 : 0 ≤ (pf 13).toInt) (g6 : (pf 13).toInt ≤ (pf 11).toInt + 10) (g7 : 0 ≤ (pf 26).toInt) (g8 : (pf 26).toInt ≤ (pf 12).toInt) (g9 : 61 ≤ (pf 12).toInt + (lv : Int)) (g10 : lv ≤ 61) (g11 : (pf 11).toInt + 1 < (tf 6).toInt) (hlf : l.flags = pinnedFlags ++ [noTraceFlag]) (htk : TkI tf ta) (hLT : LvT l D cs lv) : ThI l y_Mpg_forLoop b_Mpg_forLoop 3 (.int) D cs (8 * lv + 26) (220 * lv + 1200) [.ref h] [wdP cs h r g tf ta pf na ma wa cf ca ef ea xf xa] (oX (fun A U H => (oN A U H) ∧ (oP A g U H)) [wdP cs h r g tf ta pf na ma wa cf ca ef ea xf xa]) "java/lang/IllegalArgumentException" (fun v ps => ∃ (pf' : Nat → Int32) (na' : Nat → Nat → Int32) (ma' : Nat → Nat → Int32) (wa' : Nat → Nat → Int32), (ps = [wdP cs h r g tf ta pf' na' ma' wa' cf ca ef ea xf xa]) ∧ ((pf 11).toInt + 1 ≤ (pf' 11).toInt) ∧ ((pf' 11).toInt < (tf 6).toInt) ∧ ((pf 13).toInt + 1 ≤ (pf' 13).toInt) ∧ ((pf' 13).toInt - (pf 13).toInt ≤ (pf' 11).toInt - (pf 11).toInt) ∧ (bp ta (pf 11) + 1 ≤ bp ta (pf' 11)) ∧ ((pf' 12).toInt = (pf 12).toInt) ∧ ((pf' 24).toInt = (pf 24).toInt) ∧ ((pf' 25).toInt = (pf 25).toInt) ∧ ((pf' 26).toInt = (pf 26).toInt) ∧ (FrB (pf 13).toInt na ma na' ma') ∧ (FrW (pf 26).toInt wa wa') ∧ (VlS ta (tf 6).toInt na' ma' v (pf 13).toInt (pf' 13).toInt (3 * (bp ta (pf' 11) - bp ta (pf 11))) (200 - (pf 12).toInt))) (fun ps => ∃ (pf' : Nat → Int32) (na' : Nat → Nat → Int32) (ma' : Nat → Nat → Int32) (wa' : Nat → Nat → Int32), ps = [wdP cs h r g tf ta pf' na' ma' wa' cf ca ef ea xf xa] ∧ 0 ≤ (pf' 11).toInt ∧ (pf' 11).toInt + 1 ≤ (tf 6).toInt) := by
  refine th_enter (by decide) (Nat.le_of_ble_eq_true rfl) ?_
  intro p e s m below meth c A ls hAe S hr hlk hnm hA hT hX hw hl hne hadm
  have hl : lv_has ls 3 [(0, .ref h)] := hl
  have cst1 : (1 : Int32).toInt = 1 := rfl
  have cst22 : (22 : Int32).toInt = 22 := rfl
  have cst27 : (27 : Int32).toInt = 27 := rfl
  have hX : (fun A U H => (oN A U H) ∧ (oP A g U H)) A s s.heap := by rw [hAe]; exact hX
  obtain ⟨hN, hP⟩ := hX
  have hZ := hP.1
  have hF0 := hP.2.1
  have hfb : FrB (pf 13).toInt na ma na ma := FrB.rf
  have hfw : FrW (pf 26).toInt wa wa := FrW.rf
  have J128 : ∀ (pf_128 : Nat → Int32) (na_128 : Nat → Nat → Int32) (ma_128 : Nat → Nat → Int32) (wa_128 : Nat → Nat → Int32) (x128_1 : Int32) (H : Heap) (locs : List Loc) (ls : Array Slot), ((pf_128 24).toInt = (pf 24).toInt) → ((pf_128 25).toInt = (pf 25).toInt) → ((pf_128 26).toInt = (pf 26).toInt) → ((pf_128 12).toInt = (pf 12).toInt + 2) → ((pf_128 12).toInt ≤ 60) → ((pf 11).toInt + 2 ≤ (pf_128 11).toInt) → ((pf_128 11).toInt < (tf 6).toInt) → (x128_1.toInt = (pf 13).toInt) → (x128_1.toInt < (pf_128 13).toInt) → ((pf_128 13).toInt - (pf 13).toInt + 1 ≤ (pf_128 11).toInt - (pf 11).toInt) → (bp ta (pf 11) + 2 ≤ bp ta (pf_128 11)) → (FrB (pf 13).toInt na ma na_128 ma_128) → (FrW (pf 26).toInt wa wa_128) → (NdF (tf 6).toInt na_128 x128_1 27 (pf 11)) → (FoV ta (tf 6).toInt na_128 ma_128 x128_1 (pf_128 13).toInt (3 * (bp ta (pf_128 11) - bp ta (pf 11)) - 5) (199 - (pf 12).toInt)) → pw D A s.heap H locs [wdP cs h r g tf ta pf_128 na_128 ma_128 wa_128 cf ca ef ea xf xa] → lv_has ls 3 [(0, .ref h), (1, .int x128_1)] → W p l e { frames := (8 * lv + 26), cells := 1, slots := 6, locals := (220 * lv + 1200) } s m [.ref h].toArray below meth c H locs 0 0 (tx_MQ below (thQi D (va_A ([wdP cs h r g tf ta pf na ma wa cf ca ef ea xf xa] : List va_W).flatten s.heap.size) "java/lang/IllegalArgumentException" (fun v ps => ∃ (pf' : Nat → Int32) (na' : Nat → Nat → Int32) (ma' : Nat → Nat → Int32) (wa' : Nat → Nat → Int32), (ps = [wdP cs h r g tf ta pf' na' ma' wa' cf ca ef ea xf xa]) ∧ ((pf 11).toInt + 1 ≤ (pf' 11).toInt) ∧ ((pf' 11).toInt < (tf 6).toInt) ∧ ((pf 13).toInt + 1 ≤ (pf' 13).toInt) ∧ ((pf' 13).toInt - (pf 13).toInt ≤ (pf' 11).toInt - (pf 11).toInt) ∧ (bp ta (pf 11) + 1 ≤ bp ta (pf' 11)) ∧ ((pf' 12).toInt = (pf 12).toInt) ∧ ((pf' 24).toInt = (pf 24).toInt) ∧ ((pf' 25).toInt = (pf 25).toInt) ∧ ((pf' 26).toInt = (pf 26).toInt) ∧ (FrB (pf 13).toInt na ma na' ma') ∧ (FrW (pf 26).toInt wa wa') ∧ (VlS ta (tf 6).toInt na' ma' v (pf 13).toInt (pf' 13).toInt (3 * (bp ta (pf' 11) - bp ta (pf 11))) (200 - (pf 12).toInt))) (fun ps => ∃ (pf' : Nat → Int32) (na' : Nat → Nat → Int32) (ma' : Nat → Nat → Int32) (wa' : Nat → Nat → Int32), ps = [wdP cs h r g tf ta pf' na' ma' wa' cf ca ef ea xf xa] ∧ 0 ≤ (pf' 11).toInt ∧ (pf' 11).toInt + 1 ≤ (tf 6).toInt) s.heap.size (tot s.heap)) [.ref h].toArray s 1 6 A) (F0 m 128 ls []) := by
    intro pf_128 na_128 ma_128 wa_128 x128_1 H locs ls k128_0 k128_1 k128_2 k128_3 k128_4 k128_5 k128_6 k128_7 k128_8 k128_9 k128_10 k128_11 k128_12 k128_13 k128_14 hw hl
    have lx128_1 := Int32.le_toInt x128_1
    have ux128_1 := Int32.toInt_lt x128_1
    have hfb := k128_11
    have hfw := k128_12
    have hf_14_x128_1 := k128_13.2.1
    have hf_15_x128_1 := k128_13.2.2.1
    have hf_21_x128_1 := k128_13.2.2.2.2
    have hnt_x128_1 := k128_13.2.2.2.1
    have hfo := k128_14
    have hwfo := hfo.wpos
    refine lv_aload_n S.x S.b d_Mpg_forLoop_128 rfl (lv_at hl 0 rfl) ?_
    obtain ⟨sk1, hRsk1, st2, sb3, hSsk1⟩ := oP_lit hP (k := 89) (tx := ")") (n := 1) (List.mem_of_getElem? (i := 36) rfl)
    refine va_ldcS S.x S.b S.own hRsk1 d_Mpg_forLoop_129 ?_
    refine th_callv (ps0 := [wdP cs h r g tf ta pf na ma wa cf ca ef ea xf xa]) (pr := []) (pcs := [wdP cs h r g tf ta pf_128 na_128 ma_128 wa_128 cf ca ef ea xf xa]) (As := [.ref sk1]) (rest := []) (c_mp_closes l D cs sk1 1 h r g tf ta na_128 ma_128 wa_128 cf ca ef ea xf xa pf_128   (show 0 ≤ (pf_128 11).toInt from by omega) (show (pf_128 11).toInt < (tf 6).toInt from by omega) (show (tf 6).toInt ≤ 2049 from by omega) (show 1 ≤ (pf_128 12).toInt from by omega) (show (pf_128 12).toInt ≤ 60 from by omega) (show 1 ≤ 100 from by omega) hlf htk) S hT hw (oX_call (P := (fun A U H => (oN A U H) ∧ (oP A g U H) ∧ (StS A sk1 1 U H))) (pr := []) (oG_and oG_N (oG_and oG_P oG_Q)) hw hA ⟨hN, hP, ⟨_, _, hSsk1⟩⟩) (px_recv hT hw 0 0 rfl rfl rfl) m12_53 m12_50 m12_52 ms_9_14 m1_21 q_Mpg_closes ⟨show 8 + 1 ≤ (8 * lv + 26) from by omega, show 8 + (2 + 11) + 280 ≤ (220 * lv + 1200) from by omega⟩ hl.1 rfl (Nat.le_of_ble_eq_true rfl) d_Mpg_forLoop_131 ⟨Nat.le_of_ble_eq_true rfl, Nat.le_of_ble_eq_true rfl⟩ hne hlk hA hAe (fun o t h => Or.inr h) ?_ (fun p6 H locs hp6 hw => ?_)
    · exact fun p1 H1 locs1 hp hw => by obtain ⟨pq1, pq2, pq3, pq4, rfl, hq1, hq2⟩ := hp; exact ⟨_, ⟨pq1, pq2, pq3, pq4, rfl, hq1, hq2⟩, hw⟩
    obtain ⟨pf5, rfl, e8, e9, e10, e11, e12, e13, e14, e15⟩ := hp6
    have e8 : (pf5 11).toInt = (pf_128 11).toInt + 1 := e8
    have e9 : (pf5 11).toInt < (tf 6).toInt := e9
    have e10 : bp ta (pf_128 11) + 1 ≤ bp ta (pf5 11) := e10
    have e11 : (pf5 12).toInt = (pf_128 12).toInt - 1 := e11
    have e12 : (pf5 13).toInt = (pf_128 13).toInt := e12
    have e13 : (pf5 24).toInt = (pf_128 24).toInt := e13
    have e14 : (pf5 25).toInt = (pf_128 25).toInt := e14
    have e15 : (pf5 26).toInt = (pf_128 26).toInt := e15
    have hw : pw D A s.heap H locs [wdP cs h r g tf ta pf5 na_128 ma_128 wa_128 cf ca ef ea xf xa] := hw
    refine lv_aload_n S.x S.b d_Mpg_forLoop_134 rfl (lv_at hl 0 rfl) ?_
    refine px_get S k_Mpg hT hw 0 0 20 (v := .ref (r 20)) rfl rfl rfl (by decide) m10_6 d_Mpg_forLoop_135 ?_
    refine lv_iload_n S.x S.b d_Mpg_forLoop_138 rfl (lv_at hl 1 rfl) ?_
    refine lv_aload_n S.x S.b d_Mpg_forLoop_139 rfl (lv_at hl 0 rfl) ?_
    refine th_calli (ps0 := [wdP cs h r g tf ta pf na ma wa cf ca ef ea xf xa]) (pr := []) (pcs := [wdP cs h r g tf ta pf5 na_128 ma_128 wa_128 cf ca ef ea xf xa]) (As := []) (rest := [.int x128_1, .ref (r 20)]) ((hLT.go (by omega)) h r g tf ta cf ca ef ea xf xa pf5 na_128 ma_128 wa_128   (show 0 ≤ (pf5 11).toInt from by omega) (show (pf5 11).toInt < (tf 6).toInt from by omega) (show (tf 6).toInt ≤ 2049 from by omega) (show 0 ≤ (pf5 12).toInt from by omega) (show (pf5 12).toInt ≤ 60 from by omega) (show 0 ≤ (pf5 13).toInt from by omega) (show (pf5 13).toInt ≤ (pf5 11).toInt + 10 from by omega) (show 0 ≤ (pf5 26).toInt from by omega) (show (pf5 26).toInt ≤ (pf5 12).toInt from by omega) (show 61 ≤ (pf5 12).toInt + ((lv - 1 : Nat) : Int) from by omega) (show lv - 1 ≤ 61 from by omega) hlf htk) S hT hw (oX_call (P := (fun A U H => (oN A U H) ∧ (oP A g U H))) (pr := []) (oG_and oG_N oG_P) hw hA ⟨hN, hP⟩) (px_recv hT hw 0 0 rfl rfl rfl) m12_101 m12_98 m12_100 ms_10_10 m1_21 q_Mpg_statement ⟨show (8 * (lv - 1) + 28) + 1 ≤ (8 * lv + 26) from by omega, show 8 + (2 + 11) + (220 * (lv - 1) + 1280) ≤ (220 * lv + 1200) from by omega⟩ hl.1 rfl (Nat.le_of_ble_eq_true rfl) d_Mpg_forLoop_140 ⟨Nat.le_of_ble_eq_true rfl, Nat.le_of_ble_eq_true rfl⟩ hne hlk hA hAe (fun o t h => Or.inr h) ?_ (fun v25 p24 H locs hp24 hw => ?_)
    · exact fun p1 H1 locs1 hp hw => by obtain ⟨pq1, pq2, pq3, pq4, rfl, hq1, hq2⟩ := hp; exact ⟨_, ⟨pq1, pq2, pq3, pq4, rfl, hq1, hq2⟩, hw⟩
    obtain ⟨pf20, na21, ma22, wa23, rfl, e26, e27, e28, e29, e30, e31, e32, e33, e34, e35, e36, e37⟩ := hp24
    have e26 : (pf5 11).toInt + 1 ≤ (pf20 11).toInt := e26
    have e27 : (pf20 11).toInt < (tf 6).toInt := e27
    have e28 : (pf5 13).toInt + 1 ≤ (pf20 13).toInt := e28
    have e29 : (pf20 13).toInt - (pf5 13).toInt ≤ (pf20 11).toInt - (pf5 11).toInt := e29
    have e30 : bp ta (pf5 11) + 1 ≤ bp ta (pf20 11) := e30
    have e31 : (pf20 12).toInt = (pf5 12).toInt := e31
    have e32 : (pf20 24).toInt = (pf5 24).toInt := e32
    have e33 : (pf20 25).toInt = (pf5 25).toInt := e33
    have e34 : (pf20 26).toInt = (pf5 26).toInt := e34
    have e35 : FrB (pf5 13).toInt na_128 ma_128 na21 ma22 := e35
    have hf_14_x128_1 := (fb_n e35 (by omega) (by omega)).trans hf_14_x128_1
    have hf_15_x128_1 := (fb_n e35 (by omega) (by omega)).trans hf_15_x128_1
    have hf_21_x128_1 := (fb_n e35 (by omega) (by omega)).trans hf_21_x128_1
    have hfo := hfo.kp e35 (by omega) (by omega) (by omega)
    have hfb := hfb.tr e35 (by omega)
    have e36 : FrW (pf5 26).toInt wa_128 wa23 := e36
    have hfw := hfw.tr e36 (by omega)
    have e37 : VlS ta (tf 6).toInt na21 ma22 v25 (pf5 13).toInt (pf20 13).toInt (3 * (bp ta (pf20 11) - bp ta (pf5 11))) (200 - (pf5 12).toInt) := e37
    have hv_v25 := e37
    have hn_hv_v25 := hv_v25.num fs_ok
    have hw : pw D A s.heap H locs [wdP cs h r g tf ta pf20 na21 ma22 wa23 cf ca ef ea xf xa] := hw
    have lv25 := Int32.le_toInt v25
    have uv25 := Int32.toInt_lt v25
    refine px_iast S hT hw 0 16 (n := 2100) (f := (ma22 20)) (x := x128_1) (y := v25) rfl gp_20 (vp_in_iff.mpr (by constructor <;> omega)) d_Mpg_forLoop_143 (w' := wdP cs h r g tf ta pf20 na21 (va_up ma22 20 (upd (ma22 20) x128_1.toNatClampNeg v25)) wa23 cf ca ef ea xf xa) (ps' := [wdP cs h r g tf ta pf20 na21 (va_up ma22 20 (upd (ma22 20) x128_1.toNatClampNeg v25)) wa23 cf ca ef ea xf xa]) sp_20 rfl (fun H locs hw => ?_)
    obtain ⟨ma38, hu_ma38⟩ : ∃ y : Nat → Nat → Int32, y = va_up ma22 20 (upd (ma22 20) x128_1.toNatClampNeg v25) := ⟨_, rfl⟩
    have hw : pw D A s.heap _ _ [wdP cs h r g tf ta pf20 na21 ma38 wa23 cf ca ef ea xf xa] := (by rw [hu_ma38]; exact hw)
    have hfo := FoV.m20 hfo (by omega) hu_ma38
    have hv_v25 := hv_v25.ag fs_ok (ag_m hu_ma38 (by omega) (by omega))
    have hf_20_x128_1 : ma38 20 x128_1.toNatClampNeg = v25 := (by rw [hu_ma38, va_up_s, pk_us])
    have hfb : FrB (pf 13).toInt na ma na21 ma38 := (by rw [hu_ma38]; exact FrB.um hfb (by omega) (by omega))
    refine lv_aload_n S.x S.b d_Mpg_forLoop_144 rfl (lv_at hl 0 rfl) ?_
    refine lv_dup S.x S.b d_Mpg_forLoop_145 rfl ?_
    refine px_get S k_Mpg hT hw 0 0 12 (v := .int (pf20 12)) rfl rfl rfl (by decide) m9_236 d_Mpg_forLoop_146 ?_
    refine lv_iconst (v := 1) S.x S.b d_Mpg_forLoop_149 (by decide) ?_
    refine lv_isub S.x S.b d_Mpg_forLoop_150 ?_
    have lr39 := Int32.le_toInt (pf20 12)
    have ur39 := Int32.toInt_lt (pf20 12)
    refine lv_topi (fun z40 ez40 => ?_)
    have tz40 : z40.toInt = ((pf20 12).toInt - (1 : Int) + 2147483648) % 4294967296 - 2147483648 := by rw [ez40]; exact i_sub (pf20 12) 1
    have lz40 := Int32.le_toInt z40
    have uz40 := Int32.toInt_lt z40
    try replace tz40 : z40.toInt = (pf20 12).toInt - (1 : Int) := by omega
    refine px_put S k_Mpg hT hw 0 0 12 rfl rfl (by decide) m9_236 rfl rfl rfl (Nat.le_of_ble_eq_true rfl) d_Mpg_forLoop_151 (w' := wdP cs h r g tf ta (upd pf20 12 z40) na21 ma38 wa23 cf ca ef ea xf xa) (ps' := [wdP cs h r g tf ta (upd pf20 12 z40) na21 ma38 wa23 cf ca ef ea xf xa]) rfl rfl (fun H locs hw => ?_)
    refine lv_iload_n S.x S.b d_Mpg_forLoop_154 rfl (lv_at hl 1 rfl) ?_
    exact th_iret (v := x128_1) S hr rfl hlk hAe hw (⟨(upd pf20 12 z40), na21, ma38, wa23, rfl, (show (pf 11).toInt + 1 ≤ (pf20 11).toInt from by omega), (show (pf20 11).toInt < (tf 6).toInt from by omega), (show (pf 13).toInt + 1 ≤ (pf20 13).toInt from by omega), (show (pf20 13).toInt - (pf 13).toInt ≤ (pf20 11).toInt - (pf 11).toInt from by omega), (show bp ta (pf 11) + 1 ≤ bp ta (pf20 11) from by omega), (show z40.toInt = (pf 12).toInt from by omega), (show (pf20 24).toInt = (pf 24).toInt from by omega), (show (pf20 25).toInt = (pf 25).toInt from by omega), (show (pf20 26).toInt = (pf 26).toInt from by omega), (show FrB (pf 13).toInt na ma na21 ma38 from hfb), (show FrW (pf 26).toInt wa wa23 from hfw), (show VlS ta (tf 6).toInt na21 ma38 x128_1 (pf 13).toInt (pf20 13).toInt (3 * (bp ta (pf20 11) - bp ta (pf 11))) (200 - (pf 12).toInt) from (VlV.le (FoV.fin (FoV.le hfo (show _ ≤ (pf20 13).toInt from by omega) (Int.le_refl _)) ⟨by omega, hf_14_x128_1, hf_15_x128_1, ⟨by omega, by omega⟩, hf_21_x128_1⟩ (by omega) hf_20_x128_1 (VlV.le hv_v25 (by omega) (by omega) (Int.le_refl _) (by omega))) (by omega) (by omega) (by omega) (by omega)))⟩) d_Mpg_forLoop_155
  have J103 : ∀ (pf_103 : Nat → Int32) (na_103 : Nat → Nat → Int32) (ma_103 : Nat → Nat → Int32) (wa_103 : Nat → Nat → Int32) (x103_1 : Int32) (H : Heap) (locs : List Loc) (ls : Array Slot), ((pf_103 24).toInt = (pf 24).toInt) → ((pf_103 25).toInt = (pf 25).toInt) → ((pf_103 26).toInt = (pf 26).toInt) → ((pf_103 12).toInt = (pf 12).toInt + 2) → ((pf_103 12).toInt ≤ 60) → ((pf 11).toInt + 2 ≤ (pf_103 11).toInt) → ((pf_103 11).toInt < (tf 6).toInt) → (x103_1.toInt = (pf 13).toInt) → (x103_1.toInt < (pf_103 13).toInt) → ((pf_103 13).toInt - (pf 13).toInt + 1 ≤ (pf_103 11).toInt - (pf 11).toInt) → (bp ta (pf 11) + 2 ≤ bp ta (pf_103 11)) → (FrB (pf 13).toInt na ma na_103 ma_103) → (FrW (pf 26).toInt wa wa_103) → (NdF (tf 6).toInt na_103 x103_1 27 (pf 11)) → (FoV ta (tf 6).toInt na_103 ma_103 x103_1 (pf_103 13).toInt (3 * (bp ta (pf_103 11) - bp ta (pf 11)) - 5) (199 - (pf 12).toInt)) → pw D A s.heap H locs [wdP cs h r g tf ta pf_103 na_103 ma_103 wa_103 cf ca ef ea xf xa] → lv_has ls 3 [(0, .ref h), (1, .int x103_1)] → W p l e { frames := (8 * lv + 26), cells := 1, slots := 6, locals := (220 * lv + 1200) } s m [.ref h].toArray below meth c H locs 0 0 (tx_MQ below (thQi D (va_A ([wdP cs h r g tf ta pf na ma wa cf ca ef ea xf xa] : List va_W).flatten s.heap.size) "java/lang/IllegalArgumentException" (fun v ps => ∃ (pf' : Nat → Int32) (na' : Nat → Nat → Int32) (ma' : Nat → Nat → Int32) (wa' : Nat → Nat → Int32), (ps = [wdP cs h r g tf ta pf' na' ma' wa' cf ca ef ea xf xa]) ∧ ((pf 11).toInt + 1 ≤ (pf' 11).toInt) ∧ ((pf' 11).toInt < (tf 6).toInt) ∧ ((pf 13).toInt + 1 ≤ (pf' 13).toInt) ∧ ((pf' 13).toInt - (pf 13).toInt ≤ (pf' 11).toInt - (pf 11).toInt) ∧ (bp ta (pf 11) + 1 ≤ bp ta (pf' 11)) ∧ ((pf' 12).toInt = (pf 12).toInt) ∧ ((pf' 24).toInt = (pf 24).toInt) ∧ ((pf' 25).toInt = (pf 25).toInt) ∧ ((pf' 26).toInt = (pf 26).toInt) ∧ (FrB (pf 13).toInt na ma na' ma') ∧ (FrW (pf 26).toInt wa wa') ∧ (VlS ta (tf 6).toInt na' ma' v (pf 13).toInt (pf' 13).toInt (3 * (bp ta (pf' 11) - bp ta (pf 11))) (200 - (pf 12).toInt))) (fun ps => ∃ (pf' : Nat → Int32) (na' : Nat → Nat → Int32) (ma' : Nat → Nat → Int32) (wa' : Nat → Nat → Int32), ps = [wdP cs h r g tf ta pf' na' ma' wa' cf ca ef ea xf xa] ∧ 0 ≤ (pf' 11).toInt ∧ (pf' 11).toInt + 1 ≤ (tf 6).toInt) s.heap.size (tot s.heap)) [.ref h].toArray s 1 6 A) (F0 m 103 ls []) := by
    intro pf_103 na_103 ma_103 wa_103 x103_1 H locs ls k103_0 k103_1 k103_2 k103_3 k103_4 k103_5 k103_6 k103_7 k103_8 k103_9 k103_10 k103_11 k103_12 k103_13 k103_14 hw hl
    have lx103_1 := Int32.le_toInt x103_1
    have ux103_1 := Int32.toInt_lt x103_1
    have hfb := k103_11
    have hfw := k103_12
    have hf_14_x103_1 := k103_13.2.1
    have hf_15_x103_1 := k103_13.2.2.1
    have hf_21_x103_1 := k103_13.2.2.2.2
    have hnt_x103_1 := k103_13.2.2.2.1
    have hfo := k103_14
    have hwfo := hfo.wpos
    refine lv_aload_n S.x S.b d_Mpg_forLoop_103 rfl (lv_at hl 0 rfl) ?_
    obtain ⟨sk41, hRsk41, st42, sb43, hSsk41⟩ := oP_lit hP (k := 101) (tx := ";") (n := 1) (List.mem_of_getElem? (i := 42) rfl)
    refine va_ldcS S.x S.b S.own hRsk41 d_Mpg_forLoop_104 ?_
    refine th_callv (ps0 := [wdP cs h r g tf ta pf na ma wa cf ca ef ea xf xa]) (pr := []) (pcs := [wdP cs h r g tf ta pf_103 na_103 ma_103 wa_103 cf ca ef ea xf xa]) (As := [.ref sk41]) (rest := []) (c_mp_take l D cs sk41 1 h r g tf ta na_103 ma_103 wa_103 cf ca ef ea xf xa pf_103   (show 0 ≤ (pf_103 11).toInt from by omega) (show (pf_103 11).toInt < (tf 6).toInt from by omega) (show (tf 6).toInt ≤ 2049 from by omega) (show 1 ≤ 100 from by omega) hlf htk) S hT hw (oX_call (P := (fun A U H => (oN A U H) ∧ (oP A g U H) ∧ (StS A sk41 1 U H))) (pr := []) (oG_and oG_N (oG_and oG_P oG_Q)) hw hA ⟨hN, hP, ⟨_, _, hSsk41⟩⟩) (px_recv hT hw 0 0 rfl rfl rfl) m12_57 m12_54 m12_56 ms_9_15 m1_21 q_Mpg_take ⟨show 7 + 1 ≤ (8 * lv + 26) from by omega, show 8 + (2 + 11) + 230 ≤ (220 * lv + 1200) from by omega⟩ hl.1 rfl (Nat.le_of_ble_eq_true rfl) d_Mpg_forLoop_106 ⟨Nat.le_of_ble_eq_true rfl, Nat.le_of_ble_eq_true rfl⟩ hne hlk hA hAe (fun o t h => Or.inr h) ?_ (fun p46 H locs hp46 hw => ?_)
    · exact fun p1 H1 locs1 hp hw => by obtain ⟨pq1, pq2, pq3, pq4, rfl, hq1, hq2⟩ := hp; exact ⟨_, ⟨pq1, pq2, pq3, pq4, rfl, hq1, hq2⟩, hw⟩
    obtain ⟨pf45, rfl, e48, e49, e50, e51, e52, e53, e54, e55⟩ := hp46
    have e48 : (pf45 11).toInt = (pf_103 11).toInt + 1 := e48
    have e49 : (pf45 11).toInt < (tf 6).toInt := e49
    have e50 : bp ta (pf_103 11) + 1 ≤ bp ta (pf45 11) := e50
    have e51 : (pf45 12).toInt = (pf_103 12).toInt := e51
    have e52 : (pf45 13).toInt = (pf_103 13).toInt := e52
    have e53 : (pf45 24).toInt = (pf_103 24).toInt := e53
    have e54 : (pf45 25).toInt = (pf_103 25).toInt := e54
    have e55 : (pf45 26).toInt = (pf_103 26).toInt := e55
    have hw : pw D A s.heap H locs [wdP cs h r g tf ta pf45 na_103 ma_103 wa_103 cf ca ef ea xf xa] := hw
    refine lv_aload_n S.x S.b d_Mpg_forLoop_109 rfl (lv_at hl 0 rfl) ?_
    obtain ⟨sk56, hRsk56, st57, sb58, hSsk56⟩ := oP_lit hP (k := 89) (tx := ")") (n := 1) (List.mem_of_getElem? (i := 36) rfl)
    refine va_ldcS S.x S.b S.own hRsk56 d_Mpg_forLoop_110 ?_
    refine px_calli (pr := []) (px_runV (As := [.ref sk56]) (rest := []) S (c_mp_is l D cs sk56 1 h r g tf ta pf45 na_103 ma_103 wa_103 cf ca ef ea xf xa   (show 0 ≤ (pf45 11).toInt from by omega) (show (pf45 11).toInt < (tf 6).toInt from by omega) (show (tf 6).toInt ≤ 2049 from by omega) (show 1 ≤ 100 from by omega) htk _) hT (pr := []) (pcs := [wdP cs h r g tf ta pf45 na_103 ma_103 wa_103 cf ca ef ea xf xa]) hw (oX_call (P := (fun A U H => (oP A g U H) ∧ (StS A sk56 1 U H))) (pr := []) (oG_and oG_P oG_Q) hw hA ⟨hP, ⟨_, _, hSsk56⟩⟩) (px_recv hT hw 0 0 rfl rfl rfl) m11_217 m11_214 m11_216 ms_8_14 m1_21 q_Mpg_is ⟨show 3 + 1 ≤ (8 * lv + 26) from by omega, show 8 + (2 + 11) + 120 ≤ (220 * lv + 1200) from by omega⟩ hl.1 rfl (Nat.le_of_ble_eq_true rfl) d_Mpg_forLoop_112 ⟨Nat.le_of_ble_eq_true rfl, Nat.le_of_ble_eq_true rfl⟩) hw hA (fun v60 p59 H locs hp59 hw => ?_)
    obtain ⟨rfl, e61, e62⟩ := hp59
    have e61 := z_rng e61
    have e62 : v60.toInt = 1 → (pf45 11).toInt + 1 < (tf 6).toInt ∧ so ta (pf45 11) = 5 := e62
    have hw : pw D A s.heap H locs [wdP cs h r g tf ta pf45 na_103 ma_103 wa_103 cf ca ef ea xf xa] := hw
    have lv60 := Int32.le_toInt v60
    have uv60 := Int32.toInt_lt v60
    refine lv_if_ne (tgt := 128) S.x S.b d_Mpg_forLoop_115 (by decide) (fun c63 => ?_) (fun c63 => ?_)
    · have nc63 : ¬ v60.toInt = (0 : Int) := mt (i_eq (x := v60) (y := 0)).mpr c63
      exact J128 pf45 na_103 ma_103 wa_103 x103_1 _ _ ls (show (pf45 24).toInt = (pf 24).toInt from by omega) (show (pf45 25).toInt = (pf 25).toInt from by omega) (show (pf45 26).toInt = (pf 26).toInt from by omega) (show (pf45 12).toInt = (pf 12).toInt + 2 from by omega) (show (pf45 12).toInt ≤ 60 from by omega) (show (pf 11).toInt + 2 ≤ (pf45 11).toInt from by omega) (show (pf45 11).toInt < (tf 6).toInt from by omega) (show x103_1.toInt = (pf 13).toInt from by omega) (show x103_1.toInt < (pf45 13).toInt from by omega) (show (pf45 13).toInt - (pf 13).toInt + 1 ≤ (pf45 11).toInt - (pf 11).toInt from by omega) (show bp ta (pf 11) + 2 ≤ bp ta (pf45 11) from by omega) (show FrB (pf 13).toInt na ma na_103 ma_103 from hfb) (show FrW (pf 26).toInt wa wa_103 from hfw) (show NdF (tf 6).toInt na_103 x103_1 27 (pf 11) from ⟨by omega, hf_14_x103_1, hf_15_x103_1, ⟨by omega, by omega⟩, hf_21_x103_1⟩) (show FoV ta (tf 6).toInt na_103 ma_103 x103_1 (pf45 13).toInt (3 * (bp ta (pf45 11) - bp ta (pf 11)) - 5) (199 - (pf 12).toInt) from (FoV.le hfo (by omega) (by omega))) hw (lv_sub hl [0, 1] rfl)
    · have nc63 : v60.toInt = (0 : Int) := (i_eq (x := v60) (y := 0)).mp c63
      refine lv_aload_n S.x S.b d_Mpg_forLoop_118 rfl (lv_at hl 0 rfl) ?_
      refine px_get S k_Mpg hT hw 0 0 19 (v := .ref (r 19)) rfl rfl rfl (by decide) m10_5 d_Mpg_forLoop_119 ?_
      refine lv_iload_n S.x S.b d_Mpg_forLoop_122 rfl (lv_at hl 1 rfl) ?_
      refine lv_aload_n S.x S.b d_Mpg_forLoop_123 rfl (lv_at hl 0 rfl) ?_
      refine th_calli (ps0 := [wdP cs h r g tf ta pf na ma wa cf ca ef ea xf xa]) (pr := []) (pcs := [wdP cs h r g tf ta pf45 na_103 ma_103 wa_103 cf ca ef ea xf xa]) (As := []) (rest := [.int x103_1, .ref (r 19)]) (c_S_expression l D cs h r g tf ta cf ca ef ea xf xa pf45 na_103 ma_103 wa_103  lv (show 0 ≤ (pf45 11).toInt from by omega) (show (pf45 11).toInt < (tf 6).toInt from by omega) (show (tf 6).toInt ≤ 2049 from by omega) (show 0 ≤ (pf45 12).toInt from by omega) (show (pf45 12).toInt ≤ 60 from by omega) (show 0 ≤ (pf45 13).toInt from by omega) (show (pf45 13).toInt ≤ (pf45 11).toInt + 20 from by omega) (show 0 ≤ (pf45 26).toInt from by omega) (show (pf45 26).toInt ≤ (pf45 12).toInt from by omega) (show 61 ≤ (pf45 12).toInt + (lv : Int) from by omega) (show lv ≤ 61 from by omega) hlf htk) S hT hw (oX_call (P := (fun A U H => (oN A U H) ∧ (oP A g U H))) (pr := []) (oG_and oG_N oG_P) hw hA ⟨hN, hP⟩) (px_recv hT hw 0 0 rfl rfl rfl) m12_38 m12_35 m12_37 ms_9_11 m1_21 q_Mpg_expression ⟨show (8 * lv + 20) + 1 ≤ (8 * lv + 26) from by omega, show 8 + (7 + 11) + (220 * lv + 720) ≤ (220 * lv + 1200) from by omega⟩ hl.1 rfl (Nat.le_of_ble_eq_true rfl) d_Mpg_forLoop_124 ⟨Nat.le_of_ble_eq_true rfl, Nat.le_of_ble_eq_true rfl⟩ hne hlk hA hAe (fun o t h => Or.inr h) ?_ (fun v73 p72 H locs hp72 hw => ?_)
      · exact fun p1 H1 locs1 hp hw => by obtain ⟨pq1, pq2, pq3, pq4, rfl, hq1, hq2⟩ := hp; exact ⟨_, ⟨pq1, pq2, pq3, pq4, rfl, hq1, hq2⟩, hw⟩
      obtain ⟨pf68, na69, ma70, wa71, rfl, e74, e75, e76, e77, e78, e79, e80, e81, e82, e83, e84, e85⟩ := hp72
      have e74 : (pf45 11).toInt + 1 ≤ (pf68 11).toInt := e74
      have e75 : (pf68 11).toInt < (tf 6).toInt := e75
      have e76 : (pf45 13).toInt + 1 ≤ (pf68 13).toInt := e76
      have e77 : (pf68 13).toInt - (pf45 13).toInt ≤ (pf68 11).toInt - (pf45 11).toInt := e77
      have e78 : bp ta (pf45 11) + 1 ≤ bp ta (pf68 11) := e78
      have e79 : (pf68 12).toInt = (pf45 12).toInt := e79
      have e80 : (pf68 24).toInt = (pf45 24).toInt := e80
      have e81 : (pf68 25).toInt = (pf45 25).toInt := e81
      have e82 : (pf68 26).toInt = (pf45 26).toInt := e82
      have e83 : FrB (pf45 13).toInt na_103 ma_103 na69 ma70 := e83
      have hf_14_x103_1 := (fb_n e83 (by omega) (by omega)).trans hf_14_x103_1
      have hf_15_x103_1 := (fb_n e83 (by omega) (by omega)).trans hf_15_x103_1
      have hf_21_x103_1 := (fb_n e83 (by omega) (by omega)).trans hf_21_x103_1
      have hfo := hfo.kp e83 (by omega) (by omega) (by omega)
      have hfb := hfb.tr e83 (by omega)
      have e84 : FrW (pf45 26).toInt wa_103 wa71 := e84
      have hfw := hfw.tr e84 (by omega)
      have e85 : ExR ta (tf 6).toInt na69 ma70 v73 (pf45 13).toInt (pf68 13).toInt (3 * (bp ta (pf68 11) - bp ta (pf45 11))) (pf45 12).toInt := e85
      have ht_v73 := e85
      have hn_ht_v73 := ht_v73.num
      have hw : pw D A s.heap H locs [wdP cs h r g tf ta pf68 na69 ma70 wa71 cf ca ef ea xf xa] := hw
      have lv73 := Int32.le_toInt v73
      have uv73 := Int32.toInt_lt v73
      refine px_iast S hT hw 0 15 (n := 2100) (f := (ma70 19)) (x := x103_1) (y := v73) rfl gp_19 (vp_in_iff.mpr (by constructor <;> omega)) d_Mpg_forLoop_127 (w' := wdP cs h r g tf ta pf68 na69 (va_up ma70 19 (upd (ma70 19) x103_1.toNatClampNeg v73)) wa71 cf ca ef ea xf xa) (ps' := [wdP cs h r g tf ta pf68 na69 (va_up ma70 19 (upd (ma70 19) x103_1.toNatClampNeg v73)) wa71 cf ca ef ea xf xa]) sp_19 rfl (fun H locs hw => ?_)
      obtain ⟨ma86, hu_ma86⟩ : ∃ y : Nat → Nat → Int32, y = va_up ma70 19 (upd (ma70 19) x103_1.toNatClampNeg v73) := ⟨_, rfl⟩
      have hw : pw D A s.heap _ _ [wdP cs h r g tf ta pf68 na69 ma86 wa71 cf ca ef ea xf xa] := (by rw [hu_ma86]; exact hw)
      have hfo := FoV.setC (FoV.le hfo (show _ ≤ (pf68 13).toInt from by omega) (Int.le_refl _)) (by omega) hu_ma86 (VlV.le (exr_vl ht_v73 (by omega)) (by omega) (by omega) (Int.le_refl _) (by omega))
      have hwfo := hfo.wpos
      obtain ⟨ht_v73, hdq_v73⟩ := ht_v73.ag (ag_m hu_ma86 (by omega) (by omega)) (by omega)
      have hn_ht_v73 := ht_v73.num
      have hf_19_x103_1 : ma86 19 x103_1.toNatClampNeg = v73 := (by rw [hu_ma86, va_up_s, pk_us])
      have hfb : FrB (pf 13).toInt na ma na69 ma86 := (by rw [hu_ma86]; exact FrB.um hfb (by omega) (by omega))
      exact J128 pf68 na69 ma86 wa71 x103_1 _ _ ls (show (pf68 24).toInt = (pf 24).toInt from by omega) (show (pf68 25).toInt = (pf 25).toInt from by omega) (show (pf68 26).toInt = (pf 26).toInt from by omega) (show (pf68 12).toInt = (pf 12).toInt + 2 from by omega) (show (pf68 12).toInt ≤ 60 from by omega) (show (pf 11).toInt + 2 ≤ (pf68 11).toInt from by omega) (show (pf68 11).toInt < (tf 6).toInt from by omega) (show x103_1.toInt = (pf 13).toInt from by omega) (show x103_1.toInt < (pf68 13).toInt from by omega) (show (pf68 13).toInt - (pf 13).toInt + 1 ≤ (pf68 11).toInt - (pf 11).toInt from by omega) (show bp ta (pf 11) + 2 ≤ bp ta (pf68 11) from by omega) (show FrB (pf 13).toInt na ma na69 ma86 from hfb) (show FrW (pf 26).toInt wa wa71 from hfw) (show NdF (tf 6).toInt na69 x103_1 27 (pf 11) from ⟨by omega, hf_14_x103_1, hf_15_x103_1, ⟨by omega, by omega⟩, hf_21_x103_1⟩) (show FoV ta (tf 6).toInt na69 ma86 x103_1 (pf68 13).toInt (3 * (bp ta (pf68 11) - bp ta (pf 11)) - 5) (199 - (pf 12).toInt) from (FoV.le hfo (by omega) (by omega))) hw (lv_sub hl [0, 1] rfl)
  have J84 : ∀ (pf_84 : Nat → Int32) (na_84 : Nat → Nat → Int32) (ma_84 : Nat → Nat → Int32) (wa_84 : Nat → Nat → Int32) (x84_1 : Int32) (H : Heap) (locs : List Loc) (ls : Array Slot), ((pf_84 24).toInt = (pf 24).toInt) → ((pf_84 25).toInt = (pf 25).toInt) → ((pf_84 26).toInt = (pf 26).toInt) → ((pf_84 12).toInt = (pf 12).toInt + 2) → ((pf_84 12).toInt ≤ 60) → ((pf 11).toInt + 2 ≤ (pf_84 11).toInt) → ((pf_84 11).toInt < (tf 6).toInt) → (x84_1.toInt = (pf 13).toInt) → (x84_1.toInt < (pf_84 13).toInt) → ((pf_84 13).toInt - (pf 13).toInt + 1 ≤ (pf_84 11).toInt - (pf 11).toInt) → (bp ta (pf 11) + 2 ≤ bp ta (pf_84 11)) → (FrB (pf 13).toInt na ma na_84 ma_84) → (FrW (pf 26).toInt wa wa_84) → (NdF (tf 6).toInt na_84 x84_1 27 (pf 11)) → (FoV ta (tf 6).toInt na_84 ma_84 x84_1 (pf_84 13).toInt (3 * (bp ta (pf_84 11) - bp ta (pf 11)) - 5) (199 - (pf 12).toInt)) → pw D A s.heap H locs [wdP cs h r g tf ta pf_84 na_84 ma_84 wa_84 cf ca ef ea xf xa] → lv_has ls 3 [(0, .ref h), (1, .int x84_1)] → W p l e { frames := (8 * lv + 26), cells := 1, slots := 6, locals := (220 * lv + 1200) } s m [.ref h].toArray below meth c H locs 0 0 (tx_MQ below (thQi D (va_A ([wdP cs h r g tf ta pf na ma wa cf ca ef ea xf xa] : List va_W).flatten s.heap.size) "java/lang/IllegalArgumentException" (fun v ps => ∃ (pf' : Nat → Int32) (na' : Nat → Nat → Int32) (ma' : Nat → Nat → Int32) (wa' : Nat → Nat → Int32), (ps = [wdP cs h r g tf ta pf' na' ma' wa' cf ca ef ea xf xa]) ∧ ((pf 11).toInt + 1 ≤ (pf' 11).toInt) ∧ ((pf' 11).toInt < (tf 6).toInt) ∧ ((pf 13).toInt + 1 ≤ (pf' 13).toInt) ∧ ((pf' 13).toInt - (pf 13).toInt ≤ (pf' 11).toInt - (pf 11).toInt) ∧ (bp ta (pf 11) + 1 ≤ bp ta (pf' 11)) ∧ ((pf' 12).toInt = (pf 12).toInt) ∧ ((pf' 24).toInt = (pf 24).toInt) ∧ ((pf' 25).toInt = (pf 25).toInt) ∧ ((pf' 26).toInt = (pf 26).toInt) ∧ (FrB (pf 13).toInt na ma na' ma') ∧ (FrW (pf 26).toInt wa wa') ∧ (VlS ta (tf 6).toInt na' ma' v (pf 13).toInt (pf' 13).toInt (3 * (bp ta (pf' 11) - bp ta (pf 11))) (200 - (pf 12).toInt))) (fun ps => ∃ (pf' : Nat → Int32) (na' : Nat → Nat → Int32) (ma' : Nat → Nat → Int32) (wa' : Nat → Nat → Int32), ps = [wdP cs h r g tf ta pf' na' ma' wa' cf ca ef ea xf xa] ∧ 0 ≤ (pf' 11).toInt ∧ (pf' 11).toInt + 1 ≤ (tf 6).toInt) s.heap.size (tot s.heap)) [.ref h].toArray s 1 6 A) (F0 m 84 ls []) := by
    intro pf_84 na_84 ma_84 wa_84 x84_1 H locs ls k84_0 k84_1 k84_2 k84_3 k84_4 k84_5 k84_6 k84_7 k84_8 k84_9 k84_10 k84_11 k84_12 k84_13 k84_14 hw hl
    have lx84_1 := Int32.le_toInt x84_1
    have ux84_1 := Int32.toInt_lt x84_1
    have hfb := k84_11
    have hfw := k84_12
    have hf_14_x84_1 := k84_13.2.1
    have hf_15_x84_1 := k84_13.2.2.1
    have hf_21_x84_1 := k84_13.2.2.2.2
    have hnt_x84_1 := k84_13.2.2.2.1
    have hfo := k84_14
    have hwfo := hfo.wpos
    refine lv_aload_n S.x S.b d_Mpg_forLoop_84 rfl (lv_at hl 0 rfl) ?_
    obtain ⟨sk87, hRsk87, st88, sb89, hSsk87⟩ := oP_lit hP (k := 101) (tx := ";") (n := 1) (List.mem_of_getElem? (i := 42) rfl)
    refine va_ldcS S.x S.b S.own hRsk87 d_Mpg_forLoop_85 ?_
    refine px_calli (pr := []) (px_runV (As := [.ref sk87]) (rest := []) S (c_mp_is l D cs sk87 1 h r g tf ta pf_84 na_84 ma_84 wa_84 cf ca ef ea xf xa   (show 0 ≤ (pf_84 11).toInt from by omega) (show (pf_84 11).toInt < (tf 6).toInt from by omega) (show (tf 6).toInt ≤ 2049 from by omega) (show 1 ≤ 100 from by omega) htk _) hT (pr := []) (pcs := [wdP cs h r g tf ta pf_84 na_84 ma_84 wa_84 cf ca ef ea xf xa]) hw (oX_call (P := (fun A U H => (oP A g U H) ∧ (StS A sk87 1 U H))) (pr := []) (oG_and oG_P oG_Q) hw hA ⟨hP, ⟨_, _, hSsk87⟩⟩) (px_recv hT hw 0 0 rfl rfl rfl) m11_217 m11_214 m11_216 ms_8_14 m1_21 q_Mpg_is ⟨show 3 + 1 ≤ (8 * lv + 26) from by omega, show 8 + (2 + 11) + 120 ≤ (220 * lv + 1200) from by omega⟩ hl.1 rfl (Nat.le_of_ble_eq_true rfl) d_Mpg_forLoop_87 ⟨Nat.le_of_ble_eq_true rfl, Nat.le_of_ble_eq_true rfl⟩) hw hA (fun v91 p90 H locs hp90 hw => ?_)
    obtain ⟨rfl, e92, e93⟩ := hp90
    have e92 := z_rng e92
    have e93 : v91.toInt = 1 → (pf_84 11).toInt + 1 < (tf 6).toInt ∧ so ta (pf_84 11) = 5 := e93
    have hw : pw D A s.heap H locs [wdP cs h r g tf ta pf_84 na_84 ma_84 wa_84 cf ca ef ea xf xa] := hw
    have lv91 := Int32.le_toInt v91
    have uv91 := Int32.toInt_lt v91
    refine lv_if_ne (tgt := 103) S.x S.b d_Mpg_forLoop_90 (by decide) (fun c94 => ?_) (fun c94 => ?_)
    · have nc94 : ¬ v91.toInt = (0 : Int) := mt (i_eq (x := v91) (y := 0)).mpr c94
      exact J103 pf_84 na_84 ma_84 wa_84 x84_1 _ _ ls (show (pf_84 24).toInt = (pf 24).toInt from by omega) (show (pf_84 25).toInt = (pf 25).toInt from by omega) (show (pf_84 26).toInt = (pf 26).toInt from by omega) (show (pf_84 12).toInt = (pf 12).toInt + 2 from by omega) (show (pf_84 12).toInt ≤ 60 from by omega) (show (pf 11).toInt + 2 ≤ (pf_84 11).toInt from by omega) (show (pf_84 11).toInt < (tf 6).toInt from by omega) (show x84_1.toInt = (pf 13).toInt from by omega) (show x84_1.toInt < (pf_84 13).toInt from by omega) (show (pf_84 13).toInt - (pf 13).toInt + 1 ≤ (pf_84 11).toInt - (pf 11).toInt from by omega) (show bp ta (pf 11) + 2 ≤ bp ta (pf_84 11) from by omega) (show FrB (pf 13).toInt na ma na_84 ma_84 from hfb) (show FrW (pf 26).toInt wa wa_84 from hfw) (show NdF (tf 6).toInt na_84 x84_1 27 (pf 11) from ⟨by omega, hf_14_x84_1, hf_15_x84_1, ⟨by omega, by omega⟩, hf_21_x84_1⟩) (show FoV ta (tf 6).toInt na_84 ma_84 x84_1 (pf_84 13).toInt (3 * (bp ta (pf_84 11) - bp ta (pf 11)) - 5) (199 - (pf 12).toInt) from (FoV.le hfo (by omega) (by omega))) hw (lv_sub hl [0, 1] rfl)
    · have nc94 : v91.toInt = (0 : Int) := (i_eq (x := v91) (y := 0)).mp c94
      refine lv_aload_n S.x S.b d_Mpg_forLoop_93 rfl (lv_at hl 0 rfl) ?_
      refine px_get S k_Mpg hT hw 0 0 18 (v := .ref (r 18)) rfl rfl rfl (by decide) m10_3 d_Mpg_forLoop_94 ?_
      refine lv_iload_n S.x S.b d_Mpg_forLoop_97 rfl (lv_at hl 1 rfl) ?_
      refine lv_aload_n S.x S.b d_Mpg_forLoop_98 rfl (lv_at hl 0 rfl) ?_
      refine th_calli (ps0 := [wdP cs h r g tf ta pf na ma wa cf ca ef ea xf xa]) (pr := []) (pcs := [wdP cs h r g tf ta pf_84 na_84 ma_84 wa_84 cf ca ef ea xf xa]) (As := []) (rest := [.int x84_1, .ref (r 18)]) (c_S_expression l D cs h r g tf ta cf ca ef ea xf xa pf_84 na_84 ma_84 wa_84  lv (show 0 ≤ (pf_84 11).toInt from by omega) (show (pf_84 11).toInt < (tf 6).toInt from by omega) (show (tf 6).toInt ≤ 2049 from by omega) (show 0 ≤ (pf_84 12).toInt from by omega) (show (pf_84 12).toInt ≤ 60 from by omega) (show 0 ≤ (pf_84 13).toInt from by omega) (show (pf_84 13).toInt ≤ (pf_84 11).toInt + 20 from by omega) (show 0 ≤ (pf_84 26).toInt from by omega) (show (pf_84 26).toInt ≤ (pf_84 12).toInt from by omega) (show 61 ≤ (pf_84 12).toInt + (lv : Int) from by omega) (show lv ≤ 61 from by omega) hlf htk) S hT hw (oX_call (P := (fun A U H => (oN A U H) ∧ (oP A g U H))) (pr := []) (oG_and oG_N oG_P) hw hA ⟨hN, hP⟩) (px_recv hT hw 0 0 rfl rfl rfl) m12_38 m12_35 m12_37 ms_9_11 m1_21 q_Mpg_expression ⟨show (8 * lv + 20) + 1 ≤ (8 * lv + 26) from by omega, show 8 + (7 + 11) + (220 * lv + 720) ≤ (220 * lv + 1200) from by omega⟩ hl.1 rfl (Nat.le_of_ble_eq_true rfl) d_Mpg_forLoop_99 ⟨Nat.le_of_ble_eq_true rfl, Nat.le_of_ble_eq_true rfl⟩ hne hlk hA hAe (fun o t h => Or.inr h) ?_ (fun v104 p103 H locs hp103 hw => ?_)
      · exact fun p1 H1 locs1 hp hw => by obtain ⟨pq1, pq2, pq3, pq4, rfl, hq1, hq2⟩ := hp; exact ⟨_, ⟨pq1, pq2, pq3, pq4, rfl, hq1, hq2⟩, hw⟩
      obtain ⟨pf99, na100, ma101, wa102, rfl, e105, e106, e107, e108, e109, e110, e111, e112, e113, e114, e115, e116⟩ := hp103
      have e105 : (pf_84 11).toInt + 1 ≤ (pf99 11).toInt := e105
      have e106 : (pf99 11).toInt < (tf 6).toInt := e106
      have e107 : (pf_84 13).toInt + 1 ≤ (pf99 13).toInt := e107
      have e108 : (pf99 13).toInt - (pf_84 13).toInt ≤ (pf99 11).toInt - (pf_84 11).toInt := e108
      have e109 : bp ta (pf_84 11) + 1 ≤ bp ta (pf99 11) := e109
      have e110 : (pf99 12).toInt = (pf_84 12).toInt := e110
      have e111 : (pf99 24).toInt = (pf_84 24).toInt := e111
      have e112 : (pf99 25).toInt = (pf_84 25).toInt := e112
      have e113 : (pf99 26).toInt = (pf_84 26).toInt := e113
      have e114 : FrB (pf_84 13).toInt na_84 ma_84 na100 ma101 := e114
      have hf_14_x84_1 := (fb_n e114 (by omega) (by omega)).trans hf_14_x84_1
      have hf_15_x84_1 := (fb_n e114 (by omega) (by omega)).trans hf_15_x84_1
      have hf_21_x84_1 := (fb_n e114 (by omega) (by omega)).trans hf_21_x84_1
      have hfo := hfo.kp e114 (by omega) (by omega) (by omega)
      have hfb := hfb.tr e114 (by omega)
      have e115 : FrW (pf_84 26).toInt wa_84 wa102 := e115
      have hfw := hfw.tr e115 (by omega)
      have e116 : ExR ta (tf 6).toInt na100 ma101 v104 (pf_84 13).toInt (pf99 13).toInt (3 * (bp ta (pf99 11) - bp ta (pf_84 11))) (pf_84 12).toInt := e116
      have ht_v104 := e116
      have hn_ht_v104 := ht_v104.num
      have hw : pw D A s.heap H locs [wdP cs h r g tf ta pf99 na100 ma101 wa102 cf ca ef ea xf xa] := hw
      have lv104 := Int32.le_toInt v104
      have uv104 := Int32.toInt_lt v104
      refine px_iast S hT hw 0 14 (n := 2100) (f := (ma101 18)) (x := x84_1) (y := v104) rfl gp_18 (vp_in_iff.mpr (by constructor <;> omega)) d_Mpg_forLoop_102 (w' := wdP cs h r g tf ta pf99 na100 (va_up ma101 18 (upd (ma101 18) x84_1.toNatClampNeg v104)) wa102 cf ca ef ea xf xa) (ps' := [wdP cs h r g tf ta pf99 na100 (va_up ma101 18 (upd (ma101 18) x84_1.toNatClampNeg v104)) wa102 cf ca ef ea xf xa]) sp_18 rfl (fun H locs hw => ?_)
      obtain ⟨ma117, hu_ma117⟩ : ∃ y : Nat → Nat → Int32, y = va_up ma101 18 (upd (ma101 18) x84_1.toNatClampNeg v104) := ⟨_, rfl⟩
      have hw : pw D A s.heap _ _ [wdP cs h r g tf ta pf99 na100 ma117 wa102 cf ca ef ea xf xa] := (by rw [hu_ma117]; exact hw)
      have hfo := FoV.setB (FoV.le hfo (show _ ≤ (pf99 13).toInt from by omega) (Int.le_refl _)) (by omega) hu_ma117 (VlV.le (exr_vl ht_v104 (by omega)) (by omega) (by omega) (Int.le_refl _) (by omega))
      have hwfo := hfo.wpos
      obtain ⟨ht_v104, hdq_v104⟩ := ht_v104.ag (ag_m hu_ma117 (by omega) (by omega)) (by omega)
      have hn_ht_v104 := ht_v104.num
      have hf_18_x84_1 : ma117 18 x84_1.toNatClampNeg = v104 := (by rw [hu_ma117, va_up_s, pk_us])
      have hfb : FrB (pf 13).toInt na ma na100 ma117 := (by rw [hu_ma117]; exact FrB.um hfb (by omega) (by omega))
      exact J103 pf99 na100 ma117 wa102 x84_1 _ _ ls (show (pf99 24).toInt = (pf 24).toInt from by omega) (show (pf99 25).toInt = (pf 25).toInt from by omega) (show (pf99 26).toInt = (pf 26).toInt from by omega) (show (pf99 12).toInt = (pf 12).toInt + 2 from by omega) (show (pf99 12).toInt ≤ 60 from by omega) (show (pf 11).toInt + 2 ≤ (pf99 11).toInt from by omega) (show (pf99 11).toInt < (tf 6).toInt from by omega) (show x84_1.toInt = (pf 13).toInt from by omega) (show x84_1.toInt < (pf99 13).toInt from by omega) (show (pf99 13).toInt - (pf 13).toInt + 1 ≤ (pf99 11).toInt - (pf 11).toInt from by omega) (show bp ta (pf 11) + 2 ≤ bp ta (pf99 11) from by omega) (show FrB (pf 13).toInt na ma na100 ma117 from hfb) (show FrW (pf 26).toInt wa wa102 from hfw) (show NdF (tf 6).toInt na100 x84_1 27 (pf 11) from ⟨by omega, hf_14_x84_1, hf_15_x84_1, ⟨by omega, by omega⟩, hf_21_x84_1⟩) (show FoV ta (tf 6).toInt na100 ma117 x84_1 (pf99 13).toInt (3 * (bp ta (pf99 11) - bp ta (pf 11)) - 5) (199 - (pf 12).toInt) from (FoV.le hfo (by omega) (by omega))) hw (lv_sub hl [0, 1] rfl)
  refine lv_aload_n S.x S.b d_Mpg_forLoop_0 rfl (lv_at hl 0 rfl) ?_
  refine lv_bipush (v := 27) S.x S.b d_Mpg_forLoop_1 (by decide) ?_
  refine lv_aload_n S.x S.b d_Mpg_forLoop_3 rfl (lv_at hl 0 rfl) ?_
  refine px_get S k_Mpg hT hw 0 0 11 (v := .int (pf 11)) rfl rfl rfl (by decide) m9_235 d_Mpg_forLoop_4 ?_
  refine px_calli (pr := []) (px_runV (As := [.int 27, .int (pf 11)]) (rest := []) S (c_mp_make l D cs h r g tf ta wa cf ca ef ea xf xa pf na ma 27 (pf 11)  (show 0 ≤ (pf 13).toInt from by omega) (show (pf 13).toInt < 2100 from by omega) _) hT (pr := []) (pcs := [wdP cs h r g tf ta pf na ma wa cf ca ef ea xf xa]) hw px_X.tt (px_recv hT hw 0 0 rfl rfl rfl) m11_209 m11_206 m11_208 ms_8_12 m1_21 q_Mpg_make ⟨show 0 + 1 ≤ (8 * lv + 26) from by omega, show 8 + (3 + 11) + 0 ≤ (220 * lv + 1200) from by omega⟩ hl.1 rfl (Nat.le_of_ble_eq_true rfl) d_Mpg_forLoop_7 ⟨Nat.le_of_ble_eq_true rfl, Nat.le_of_ble_eq_true rfl⟩) hw hA (fun v125 p124 H locs hp124 hw => ?_)
  obtain ⟨pf121, na122, ma123, rfl, e126, e127, e128, e129, e130, e131, e132, e133⟩ := hp124
  have e126 : v125.toInt = (pf 13).toInt := e126
  have e127 : (pf121 13).toInt = (pf 13).toInt + 1 := e127
  have e128 : (pf121 11).toInt = (pf 11).toInt := e128
  have e129 : (pf121 12).toInt = (pf 12).toInt := e129
  have e130 : (pf121 24).toInt = (pf 24).toInt := e130
  have e131 : (pf121 25).toInt = (pf 25).toInt := e131
  have e132 : (pf121 26).toInt = (pf 26).toInt := e132
  have e133 : MkN na ma na122 ma123 v125 (27 : Int32) (pf 11) := e133
  obtain ⟨qb1341, qb1342, qb1343, qb1344⟩ := tk_eq (ta := ta) (x := (pf121 11)) (y := (pf 11)) (by omega)
  have hmk_v125 := e133
  have hfm_v125 := MkN.frb (b := v125.toInt) hmk_v125 (by omega) (by omega)
  have hfb := hfb.tr hfm_v125 (by omega)
  have hf_14_v125 := hmk_v125.2.1 (by decide) (by decide)
  have hf_15_v125 := hmk_v125.2.2.1
  have hf_17_v125 := hmk_v125.2.2.2.2.1
  have hf_18_v125 := hmk_v125.2.2.2.2.2.1
  have hf_19_v125 := hmk_v125.2.2.2.2.2.2.1
  have hf_21_v125 := hmk_v125.2.2.2.2.2.2.2.2.1
  clear hmk_v125 hfm_v125
  have hw : pw D A s.heap H locs [wdP cs h r g tf ta pf121 na122 ma123 wa cf ca ef ea xf xa] := hw
  have lv125 := Int32.le_toInt v125
  have uv125 := Int32.toInt_lt v125
  refine lv_istore_n (lv' := [(1, .int v125), (0, .ref h)]) S.x S.b d_Mpg_forLoop_10 rfl hl (by decide) rfl (fun ls hl => ?_)
  refine lv_aload_n S.x S.b d_Mpg_forLoop_11 rfl (lv_at hl 1 rfl) ?_
  refine th_callv (ps0 := [wdP cs h r g tf ta pf na ma wa cf ca ef ea xf xa]) (pr := []) (pcs := [wdP cs h r g tf ta pf121 na122 ma123 wa cf ca ef ea xf xa]) (As := []) (rest := []) (c_mp_opens l D cs h r g tf ta na122 ma123 wa cf ca ef ea xf xa pf121   (show 0 ≤ (pf121 11).toInt from by omega) (show (pf121 11).toInt < (tf 6).toInt from by omega) (show (tf 6).toInt ≤ 2049 from by omega) (show (pf121 11).toInt + 1 < (tf 6).toInt from by omega) (show 0 ≤ (pf121 12).toInt from by omega) (show (pf121 12).toInt ≤ 60 from by omega) hlf htk) S hT hw (oX_call (P := (fun A U H => (oN A U H) ∧ (oP A g U H))) (pr := []) (oG_and oG_N oG_P) hw hA ⟨hN, hP⟩) (px_recv hT hw 0 0 rfl rfl rfl) m11_238 m11_235 m11_237 ms_9_1 m1_21 q_Mpg_opens ⟨show 7 + 1 ≤ (8 * lv + 26) from by omega, show 8 + (1 + 11) + 150 ≤ (220 * lv + 1200) from by omega⟩ hl.1 rfl (Nat.le_of_ble_eq_true rfl) d_Mpg_forLoop_12 ⟨Nat.le_of_ble_eq_true rfl, Nat.le_of_ble_eq_true rfl⟩ hne hlk hA hAe (fun o t h => Or.inr h) ?_ (fun p137 H locs hp137 hw => ?_)
  · exact fun p1 H1 locs1 hp hw => by obtain ⟨pq1, pq2, pq3, pq4, rfl, hq1, hq2⟩ := hp; exact ⟨_, ⟨pq1, pq2, pq3, pq4, rfl, hq1, hq2⟩, hw⟩
  obtain ⟨pf136, rfl, e139, e140, e141, e142, e143, e144, e145, e146, e147, e148⟩ := hp137
  have e139 : (pf136 11).toInt = (pf121 11).toInt + 1 := e139
  have e140 : (pf136 11).toInt < (tf 6).toInt := e140
  have e141 : bp ta (pf121 11) + sz ta (pf121 11) ≤ bp ta (pf136 11) := e141
  have e142 : 1 ≤ sz ta (pf121 11) := e142
  have e143 : (pf136 12).toInt = (pf121 12).toInt + 1 := e143
  have e144 : (pf121 12).toInt < 60 := e144
  have e145 : (pf136 13).toInt = (pf121 13).toInt := e145
  have e146 : (pf136 24).toInt = (pf121 24).toInt := e146
  have e147 : (pf136 25).toInt = (pf121 25).toInt := e147
  have e148 : (pf136 26).toInt = (pf121 26).toInt := e148
  have hw : pw D A s.heap H locs [wdP cs h r g tf ta pf136 na122 ma123 wa cf ca ef ea xf xa] := hw
  refine lv_aload_n S.x S.b d_Mpg_forLoop_15 rfl (lv_at hl 1 rfl) ?_
  obtain ⟨sk149, hRsk149, st150, sb151, hSsk149⟩ := oP_lit hP (k := 87) (tx := "(") (n := 1) (List.mem_of_getElem? (i := 35) rfl)
  refine va_ldcS S.x S.b S.own hRsk149 d_Mpg_forLoop_16 ?_
  refine th_callv (ps0 := [wdP cs h r g tf ta pf na ma wa cf ca ef ea xf xa]) (pr := []) (pcs := [wdP cs h r g tf ta pf136 na122 ma123 wa cf ca ef ea xf xa]) (As := [.ref sk149]) (rest := []) (c_mp_opensMark l D cs sk149 1 h r g tf ta na122 ma123 wa cf ca ef ea xf xa pf136   (show 0 ≤ (pf136 11).toInt from by omega) (show (pf136 11).toInt < (tf 6).toInt from by omega) (show (tf 6).toInt ≤ 2049 from by omega) (show 0 ≤ (pf136 12).toInt from by omega) (show (pf136 12).toInt ≤ 60 from by omega) (show 1 ≤ 100 from by omega) hlf htk) S hT hw (oX_call (P := (fun A U H => (oN A U H) ∧ (oP A g U H) ∧ (StS A sk149 1 U H))) (pr := []) (oG_and oG_N (oG_and oG_P oG_Q)) hw hA ⟨hN, hP, ⟨_, _, hSsk149⟩⟩) (px_recv hT hw 0 0 rfl rfl rfl) m11_213 m11_210 m11_212 ms_8_13 m1_21 q_Mpg_opensMark ⟨show 8 + 1 ≤ (8 * lv + 26) from by omega, show 8 + (2 + 11) + 240 ≤ (220 * lv + 1200) from by omega⟩ hl.1 rfl (Nat.le_of_ble_eq_true rfl) d_Mpg_forLoop_18 ⟨Nat.le_of_ble_eq_true rfl, Nat.le_of_ble_eq_true rfl⟩ hne hlk hA hAe (fun o t h => Or.inr h) ?_ (fun p154 H locs hp154 hw => ?_)
  · exact fun p1 H1 locs1 hp hw => by obtain ⟨pq1, pq2, pq3, pq4, rfl, hq1, hq2⟩ := hp; exact ⟨_, ⟨pq1, pq2, pq3, pq4, rfl, hq1, hq2⟩, hw⟩
  obtain ⟨pf153, rfl, e156, e157, e158, e159, e160, e161, e162, e163, e164, e165⟩ := hp154
  have e156 : (pf153 11).toInt = (pf136 11).toInt + 1 := e156
  have e157 : (pf153 11).toInt < (tf 6).toInt := e157
  have e158 : bp ta (pf136 11) + sz ta (pf136 11) ≤ bp ta (pf153 11) := e158
  have e159 : 1 ≤ sz ta (pf136 11) := e159
  have e160 : (pf153 12).toInt = (pf136 12).toInt + 1 := e160
  have e161 : (pf136 12).toInt < 60 := e161
  have e162 : (pf153 13).toInt = (pf136 13).toInt := e162
  have e163 : (pf153 24).toInt = (pf136 24).toInt := e163
  have e164 : (pf153 25).toInt = (pf136 25).toInt := e164
  have e165 : (pf153 26).toInt = (pf136 26).toInt := e165
  have hw : pw D A s.heap H locs [wdP cs h r g tf ta pf153 na122 ma123 wa cf ca ef ea xf xa] := hw
  refine lv_aload_n S.x S.b d_Mpg_forLoop_21 rfl (lv_at hl 1 rfl) ?_
  refine px_calli (pr := []) (px_runV (As := []) (rest := []) S (c_mp_isType l D cs h r g tf ta pf153 na122 ma123 wa cf ca ef ea xf xa   (show 0 ≤ (pf153 11).toInt from by omega) (show (pf153 11).toInt < (tf 6).toInt from by omega) (show (tf 6).toInt ≤ 2049 from by omega) htk _) hT (pr := []) (pcs := [wdP cs h r g tf ta pf153 na122 ma123 wa cf ca ef ea xf xa]) hw px_X.tt (px_recv hT hw 0 0 rfl rfl rfl) m12_85 m12_82 m12_84 ms_10_6 m1_21 q_Mpg_isType ⟨show 1 + 1 ≤ (8 * lv + 26) from by omega, show 8 + (1 + 11) + 40 ≤ (220 * lv + 1200) from by omega⟩ hl.1 rfl (Nat.le_of_ble_eq_true rfl) d_Mpg_forLoop_22 ⟨Nat.le_of_ble_eq_true rfl, Nat.le_of_ble_eq_true rfl⟩) hw hA (fun v167 p166 H locs hp166 hw => ?_)
  obtain ⟨rfl, e168, e169⟩ := hp166
  have e168 := z_rng e168
  have e169 : v167.toInt = 1 → (pf153 11).toInt + 1 < (tf 6).toInt ∧ so ta (pf153 11) = 2 ∧ 0 ≤ wh ta (pf153 11) ∧ wh ta (pf153 11) ≤ 1 := e169
  have hw : pw D A s.heap H locs [wdP cs h r g tf ta pf153 na122 ma123 wa cf ca ef ea xf xa] := hw
  have lv167 := Int32.le_toInt v167
  have uv167 := Int32.toInt_lt v167
  refine lv_if_eq (tgt := 41) S.x S.b d_Mpg_forLoop_25 (by decide) (fun c170 => ?_) (fun c170 => ?_)
  · have nc170 : v167.toInt = (0 : Int) := (i_eq (x := v167) (y := 0)).mp c170
    refine lv_aload_n S.x S.b d_Mpg_forLoop_41 rfl (lv_at hl 1 rfl) ?_
    obtain ⟨sk171, hRsk171, st172, sb173, hSsk171⟩ := oP_lit hP (k := 101) (tx := ";") (n := 1) (List.mem_of_getElem? (i := 42) rfl)
    refine va_ldcS S.x S.b S.own hRsk171 d_Mpg_forLoop_42 ?_
    refine px_calli (pr := []) (px_runV (As := [.ref sk171]) (rest := []) S (c_mp_takes l D cs sk171 1 h r g tf ta na122 ma123 wa cf ca ef ea xf xa pf153   (show 0 ≤ (pf153 11).toInt from by omega) (show (pf153 11).toInt < (tf 6).toInt from by omega) (show (tf 6).toInt ≤ 2049 from by omega) (show 1 ≤ 100 from by omega) htk _) hT (pr := []) (pcs := [wdP cs h r g tf ta pf153 na122 ma123 wa cf ca ef ea xf xa]) hw (oX_call (P := (fun A U H => (oP A g U H) ∧ (StS A sk171 1 U H))) (pr := []) (oG_and oG_P oG_Q) hw hA ⟨hP, ⟨_, _, hSsk171⟩⟩) (px_recv hT hw 0 0 rfl rfl rfl) m12_6 m12_3 m12_5 ms_9_3 m1_21 q_Mpg_takes ⟨show 4 + 1 ≤ (8 * lv + 26) from by omega, show 8 + (3 + 11) + 160 ≤ (220 * lv + 1200) from by omega⟩ hl.1 rfl (Nat.le_of_ble_eq_true rfl) d_Mpg_forLoop_44 ⟨Nat.le_of_ble_eq_true rfl, Nat.le_of_ble_eq_true rfl⟩) hw hA (fun v177 p176 H locs hp176 hw => ?_)
    obtain ⟨pf175, rfl, e178, e179, e180, e181, e182, e183, e184, e185, e186⟩ := hp176
    have e178 := z_rng e178
    have e179 : (pf175 11).toInt = (pf153 11).toInt + v177.toInt := e179
    have e180 : (pf175 11).toInt < (tf 6).toInt := e180
    have e181 : bp ta (pf153 11) + v177.toInt ≤ bp ta (pf175 11) := e181
    have e182 : (pf175 12).toInt = (pf153 12).toInt := e182
    have e183 : (pf175 13).toInt = (pf153 13).toInt := e183
    have e184 : (pf175 24).toInt = (pf153 24).toInt := e184
    have e185 : (pf175 25).toInt = (pf153 25).toInt := e185
    have e186 : (pf175 26).toInt = (pf153 26).toInt := e186
    have hw : pw D A s.heap H locs [wdP cs h r g tf ta pf175 na122 ma123 wa cf ca ef ea xf xa] := hw
    have lv177 := Int32.le_toInt v177
    have uv177 := Int32.toInt_lt v177
    refine lv_if_ne (tgt := 84) S.x S.b d_Mpg_forLoop_47 (by decide) (fun c187 => ?_) (fun c187 => ?_)
    · have nc187 : ¬ v177.toInt = (0 : Int) := mt (i_eq (x := v177) (y := 0)).mpr c187
      exact J84 pf175 na122 ma123 wa v125 _ _ ls (show (pf175 24).toInt = (pf 24).toInt from by omega) (show (pf175 25).toInt = (pf 25).toInt from by omega) (show (pf175 26).toInt = (pf 26).toInt from by omega) (show (pf175 12).toInt = (pf 12).toInt + 2 from by omega) (show (pf175 12).toInt ≤ 60 from by omega) (show (pf 11).toInt + 2 ≤ (pf175 11).toInt from by omega) (show (pf175 11).toInt < (tf 6).toInt from by omega) (show v125.toInt = (pf 13).toInt from by omega) (show v125.toInt < (pf175 13).toInt from by omega) (show (pf175 13).toInt - (pf 13).toInt + 1 ≤ (pf175 11).toInt - (pf 11).toInt from by omega) (show bp ta (pf 11) + 2 ≤ bp ta (pf175 11) from by omega) (show FrB (pf 13).toInt na ma na122 ma123 from hfb) (show FrW (pf 26).toInt wa wa from hfw) (show NdF (tf 6).toInt na122 v125 27 (pf 11) from ⟨by omega, hf_14_v125, hf_15_v125, ⟨by omega, by omega⟩, hf_21_v125⟩) (show FoV ta (tf 6).toInt na122 ma123 v125 (pf175 13).toInt (3 * (bp ta (pf175 11) - bp ta (pf 11)) - 5) (199 - (pf 12).toInt) from (fo_0 hf_17_v125 hf_18_v125 hf_19_v125 (by omega))) hw (lv_sub hl [1, 0] rfl)
    · have nc187 : v177.toInt = (0 : Int) := (i_eq (x := v177) (y := 0)).mp c187
      refine lv_aload_n S.x S.b d_Mpg_forLoop_50 rfl (lv_at hl 1 rfl) ?_
      refine lv_bipush (v := 22) S.x S.b d_Mpg_forLoop_51 (by decide) ?_
      refine lv_aload_n S.x S.b d_Mpg_forLoop_53 rfl (lv_at hl 1 rfl) ?_
      refine px_get S k_Mpg hT hw 0 0 11 (v := .int (pf175 11)) rfl rfl rfl (by decide) m9_235 d_Mpg_forLoop_54 ?_
      refine px_calli (pr := []) (px_runV (As := [.int 22, .int (pf175 11)]) (rest := []) S (c_mp_make l D cs h r g tf ta wa cf ca ef ea xf xa pf175 na122 ma123 22 (pf175 11)  (show 0 ≤ (pf175 13).toInt from by omega) (show (pf175 13).toInt < 2100 from by omega) _) hT (pr := []) (pcs := [wdP cs h r g tf ta pf175 na122 ma123 wa cf ca ef ea xf xa]) hw px_X.tt (px_recv hT hw 0 0 rfl rfl rfl) m11_209 m11_206 m11_208 ms_8_12 m1_21 q_Mpg_make ⟨show 0 + 1 ≤ (8 * lv + 26) from by omega, show 8 + (3 + 11) + 0 ≤ (220 * lv + 1200) from by omega⟩ hl.1 rfl (Nat.le_of_ble_eq_true rfl) d_Mpg_forLoop_57 ⟨Nat.le_of_ble_eq_true rfl, Nat.le_of_ble_eq_true rfl⟩) hw hA (fun v195 p194 H locs hp194 hw => ?_)
      obtain ⟨pf191, na192, ma193, rfl, e196, e197, e198, e199, e200, e201, e202, e203⟩ := hp194
      have e196 : v195.toInt = (pf175 13).toInt := e196
      have e197 : (pf191 13).toInt = (pf175 13).toInt + 1 := e197
      have e198 : (pf191 11).toInt = (pf175 11).toInt := e198
      have e199 : (pf191 12).toInt = (pf175 12).toInt := e199
      have e200 : (pf191 24).toInt = (pf175 24).toInt := e200
      have e201 : (pf191 25).toInt = (pf175 25).toInt := e201
      have e202 : (pf191 26).toInt = (pf175 26).toInt := e202
      have e203 : MkN na122 ma123 na192 ma193 v195 (22 : Int32) (pf175 11) := e203
      obtain ⟨qb2041, qb2042, qb2043, qb2044⟩ := tk_eq (ta := ta) (x := (pf191 11)) (y := (pf175 11)) (by omega)
      have hmk_v195 := e203
      have hfm_v195 := MkN.frb (b := v195.toInt) hmk_v195 (by omega) (by omega)
      have hf_14_v125 := (fb_n hfm_v195 (by omega) (by omega)).trans hf_14_v125
      have hf_15_v125 := (fb_n hfm_v195 (by omega) (by omega)).trans hf_15_v125
      have hf_17_v125 := (fb_n hfm_v195 (by omega) (by omega)).trans hf_17_v125
      have hf_18_v125 := (fb_m hfm_v195 (by omega) (by omega)).trans hf_18_v125
      have hf_19_v125 := (fb_m hfm_v195 (by omega) (by omega)).trans hf_19_v125
      have hf_21_v125 := (fb_n hfm_v195 (by omega) (by omega)).trans hf_21_v125
      have hfb := hfb.tr hfm_v195 (by omega)
      have hf_14_v195 := hmk_v195.2.1 (by decide) (by decide)
      have hf_15_v195 := hmk_v195.2.2.1
      have hf_17_v195 := hmk_v195.2.2.2.2.1
      have hf_18_v195 := hmk_v195.2.2.2.2.2.1
      have hf_19_v195 := hmk_v195.2.2.2.2.2.2.1
      have hf_21_v195 := hmk_v195.2.2.2.2.2.2.2.2.1
      clear hmk_v195 hfm_v195
      have hw : pw D A s.heap H locs [wdP cs h r g tf ta pf191 na192 ma193 wa cf ca ef ea xf xa] := hw
      have lv195 := Int32.le_toInt v195
      have uv195 := Int32.toInt_lt v195
      refine lv_istore_n (lv' := [(2, .int v195), (1, .int v125), (0, .ref h)]) S.x S.b d_Mpg_forLoop_60 rfl hl (by decide) rfl (fun ls hl => ?_)
      refine lv_aload_n S.x S.b d_Mpg_forLoop_61 rfl (lv_at hl 2 rfl) ?_
      refine px_get S k_Mpg hT hw 0 0 17 (v := .ref (r 17)) rfl rfl rfl (by decide) m10_1 d_Mpg_forLoop_62 ?_
      refine lv_iload_n S.x S.b d_Mpg_forLoop_65 rfl (lv_at hl 0 rfl) ?_
      refine lv_aload_n S.x S.b d_Mpg_forLoop_66 rfl (lv_at hl 2 rfl) ?_
      refine th_calli (ps0 := [wdP cs h r g tf ta pf na ma wa cf ca ef ea xf xa]) (pr := []) (pcs := [wdP cs h r g tf ta pf191 na192 ma193 wa cf ca ef ea xf xa]) (As := []) (rest := [.int v195, .ref (r 17)]) (c_S_expression l D cs h r g tf ta cf ca ef ea xf xa pf191 na192 ma193 wa  lv (show 0 ≤ (pf191 11).toInt from by omega) (show (pf191 11).toInt < (tf 6).toInt from by omega) (show (tf 6).toInt ≤ 2049 from by omega) (show 0 ≤ (pf191 12).toInt from by omega) (show (pf191 12).toInt ≤ 60 from by omega) (show 0 ≤ (pf191 13).toInt from by omega) (show (pf191 13).toInt ≤ (pf191 11).toInt + 20 from by omega) (show 0 ≤ (pf191 26).toInt from by omega) (show (pf191 26).toInt ≤ (pf191 12).toInt from by omega) (show 61 ≤ (pf191 12).toInt + (lv : Int) from by omega) (show lv ≤ 61 from by omega) hlf htk) S hT hw (oX_call (P := (fun A U H => (oN A U H) ∧ (oP A g U H))) (pr := []) (oG_and oG_N oG_P) hw hA ⟨hN, hP⟩) (px_recv hT hw 0 0 rfl rfl rfl) m12_38 m12_35 m12_37 ms_9_11 m1_21 q_Mpg_expression ⟨show (8 * lv + 20) + 1 ≤ (8 * lv + 26) from by omega, show 8 + (7 + 11) + (220 * lv + 720) ≤ (220 * lv + 1200) from by omega⟩ hl.1 rfl (Nat.le_of_ble_eq_true rfl) d_Mpg_forLoop_67 ⟨Nat.le_of_ble_eq_true rfl, Nat.le_of_ble_eq_true rfl⟩ hne hlk hA hAe (fun o t h => Or.inr h) ?_ (fun v214 p213 H locs hp213 hw => ?_)
      · exact fun p1 H1 locs1 hp hw => by obtain ⟨pq1, pq2, pq3, pq4, rfl, hq1, hq2⟩ := hp; exact ⟨_, ⟨pq1, pq2, pq3, pq4, rfl, hq1, hq2⟩, hw⟩
      obtain ⟨pf209, na210, ma211, wa212, rfl, e215, e216, e217, e218, e219, e220, e221, e222, e223, e224, e225, e226⟩ := hp213
      have e215 : (pf191 11).toInt + 1 ≤ (pf209 11).toInt := e215
      have e216 : (pf209 11).toInt < (tf 6).toInt := e216
      have e217 : (pf191 13).toInt + 1 ≤ (pf209 13).toInt := e217
      have e218 : (pf209 13).toInt - (pf191 13).toInt ≤ (pf209 11).toInt - (pf191 11).toInt := e218
      have e219 : bp ta (pf191 11) + 1 ≤ bp ta (pf209 11) := e219
      have e220 : (pf209 12).toInt = (pf191 12).toInt := e220
      have e221 : (pf209 24).toInt = (pf191 24).toInt := e221
      have e222 : (pf209 25).toInt = (pf191 25).toInt := e222
      have e223 : (pf209 26).toInt = (pf191 26).toInt := e223
      have e224 : FrB (pf191 13).toInt na192 ma193 na210 ma211 := e224
      have hf_14_v125 := (fb_n e224 (by omega) (by omega)).trans hf_14_v125
      have hf_15_v125 := (fb_n e224 (by omega) (by omega)).trans hf_15_v125
      have hf_17_v125 := (fb_n e224 (by omega) (by omega)).trans hf_17_v125
      have hf_18_v125 := (fb_m e224 (by omega) (by omega)).trans hf_18_v125
      have hf_19_v125 := (fb_m e224 (by omega) (by omega)).trans hf_19_v125
      have hf_21_v125 := (fb_n e224 (by omega) (by omega)).trans hf_21_v125
      have hf_14_v195 := (fb_n e224 (by omega) (by omega)).trans hf_14_v195
      have hf_15_v195 := (fb_n e224 (by omega) (by omega)).trans hf_15_v195
      have hf_17_v195 := (fb_n e224 (by omega) (by omega)).trans hf_17_v195
      have hf_18_v195 := (fb_m e224 (by omega) (by omega)).trans hf_18_v195
      have hf_19_v195 := (fb_m e224 (by omega) (by omega)).trans hf_19_v195
      have hf_21_v195 := (fb_n e224 (by omega) (by omega)).trans hf_21_v195
      have hfb := hfb.tr e224 (by omega)
      have e225 : FrW (pf191 26).toInt wa wa212 := e225
      have hfw := hfw.tr e225 (by omega)
      have e226 : ExR ta (tf 6).toInt na210 ma211 v214 (pf191 13).toInt (pf209 13).toInt (3 * (bp ta (pf209 11) - bp ta (pf191 11))) (pf191 12).toInt := e226
      have ht_v214 := e226
      have hn_ht_v214 := ht_v214.num
      have hw : pw D A s.heap H locs [wdP cs h r g tf ta pf209 na210 ma211 wa212 cf ca ef ea xf xa] := hw
      have lv214 := Int32.le_toInt v214
      have uv214 := Int32.toInt_lt v214
      refine px_iast S hT hw 0 13 (n := 2100) (f := (na210 17)) (x := v195) (y := v214) rfl gp_17 (vp_in_iff.mpr (by constructor <;> omega)) d_Mpg_forLoop_70 (w' := wdP cs h r g tf ta pf209 (va_up na210 17 (upd (na210 17) v195.toNatClampNeg v214)) ma211 wa212 cf ca ef ea xf xa) (ps' := [wdP cs h r g tf ta pf209 (va_up na210 17 (upd (na210 17) v195.toNatClampNeg v214)) ma211 wa212 cf ca ef ea xf xa]) sp_17 rfl (fun H locs hw => ?_)
      obtain ⟨na227, hu_na227⟩ : ∃ y : Nat → Nat → Int32, y = va_up na210 17 (upd (na210 17) v195.toNatClampNeg v214) := ⟨_, rfl⟩
      have hw : pw D A s.heap _ _ [wdP cs h r g tf ta pf209 na227 ma211 wa212 cf ca ef ea xf xa] := (by rw [hu_na227]; exact hw)
      obtain ⟨ht_v214, hdq_v214⟩ := ht_v214.ag (ag_n hu_na227 (by omega) (by omega)) (by omega)
      have hn_ht_v214 := ht_v214.num
      have hf_14_v125 := (fl_n hu_na227 (by decide)).trans hf_14_v125
      have hf_15_v125 := (fl_n hu_na227 (by decide)).trans hf_15_v125
      have hf_17_v125 := (fl_f hu_na227 (by omega) (by omega) (by omega)).trans hf_17_v125
      have hf_21_v125 := (fl_n hu_na227 (by decide)).trans hf_21_v125
      have hf_14_v195 := (fl_n hu_na227 (by decide)).trans hf_14_v195
      have hf_15_v195 := (fl_n hu_na227 (by decide)).trans hf_15_v195
      have hf_21_v195 := (fl_n hu_na227 (by decide)).trans hf_21_v195
      have hf_17_v195 : na227 17 v195.toNatClampNeg = v214 := (by rw [hu_na227, va_up_s, pk_us])
      have hfb : FrB (pf 13).toInt na ma na227 ma211 := (by rw [hu_na227]; exact FrB.un hfb (by omega) (by omega))
      refine lv_aload_n S.x S.b d_Mpg_forLoop_71 rfl (lv_at hl 2 rfl) ?_
      refine px_get S k_Mpg hT hw 0 0 17 (v := .ref (r 17)) rfl rfl rfl (by decide) m10_1 d_Mpg_forLoop_72 ?_
      refine lv_iload_n S.x S.b d_Mpg_forLoop_75 rfl (lv_at hl 1 rfl) ?_
      refine lv_iload_n S.x S.b d_Mpg_forLoop_76 rfl (lv_at hl 0 rfl) ?_
      refine px_iast S hT hw 0 13 (n := 2100) (f := (na227 17)) (x := v125) (y := v195) rfl gp_17 (vp_in_iff.mpr (by constructor <;> omega)) d_Mpg_forLoop_77 (w' := wdP cs h r g tf ta pf209 (va_up na227 17 (upd (na227 17) v125.toNatClampNeg v195)) ma211 wa212 cf ca ef ea xf xa) (ps' := [wdP cs h r g tf ta pf209 (va_up na227 17 (upd (na227 17) v125.toNatClampNeg v195)) ma211 wa212 cf ca ef ea xf xa]) sp_17 rfl (fun H locs hw => ?_)
      obtain ⟨na228, hu_na228⟩ : ∃ y : Nat → Nat → Int32, y = va_up na227 17 (upd (na227 17) v125.toNatClampNeg v195) := ⟨_, rfl⟩
      have hw : pw D A s.heap _ _ [wdP cs h r g tf ta pf209 na228 ma211 wa212 cf ca ef ea xf xa] := (by rw [hu_na228]; exact hw)
      obtain ⟨ht_v214, hdq_v214⟩ := ht_v214.ag (ag_n hu_na228 (by omega) (by omega)) (by omega)
      have hn_ht_v214 := ht_v214.num
      have hf_14_v125 := (fl_n hu_na228 (by decide)).trans hf_14_v125
      have hf_15_v125 := (fl_n hu_na228 (by decide)).trans hf_15_v125
      have hf_21_v125 := (fl_n hu_na228 (by decide)).trans hf_21_v125
      have hf_14_v195 := (fl_n hu_na228 (by decide)).trans hf_14_v195
      have hf_15_v195 := (fl_n hu_na228 (by decide)).trans hf_15_v195
      have hf_17_v195 := (fl_f hu_na228 (by omega) (by omega) (by omega)).trans hf_17_v195
      have hf_21_v195 := (fl_n hu_na228 (by decide)).trans hf_21_v195
      have hf_17_v125 : na228 17 v125.toNatClampNeg = v195 := (by rw [hu_na228, va_up_s, pk_us])
      have hfb : FrB (pf 13).toInt na ma na228 ma211 := (by rw [hu_na228]; exact FrB.un hfb (by omega) (by omega))
      refine lv_aload_n S.x S.b d_Mpg_forLoop_78 rfl (lv_at hl 2 rfl) ?_
      obtain ⟨sk229, hRsk229, st230, sb231, hSsk229⟩ := oP_lit hP (k := 101) (tx := ";") (n := 1) (List.mem_of_getElem? (i := 42) rfl)
      refine va_ldcS S.x S.b S.own hRsk229 d_Mpg_forLoop_79 ?_
      refine th_callv (ps0 := [wdP cs h r g tf ta pf na ma wa cf ca ef ea xf xa]) (pr := []) (pcs := [wdP cs h r g tf ta pf209 na228 ma211 wa212 cf ca ef ea xf xa]) (As := [.ref sk229]) (rest := []) (c_mp_take l D cs sk229 1 h r g tf ta na228 ma211 wa212 cf ca ef ea xf xa pf209   (show 0 ≤ (pf209 11).toInt from by omega) (show (pf209 11).toInt < (tf 6).toInt from by omega) (show (tf 6).toInt ≤ 2049 from by omega) (show 1 ≤ 100 from by omega) hlf htk) S hT hw (oX_call (P := (fun A U H => (oN A U H) ∧ (oP A g U H) ∧ (StS A sk229 1 U H))) (pr := []) (oG_and oG_N (oG_and oG_P oG_Q)) hw hA ⟨hN, hP, ⟨_, _, hSsk229⟩⟩) (px_recv hT hw 0 0 rfl rfl rfl) m12_57 m12_54 m12_56 ms_9_15 m1_21 q_Mpg_take ⟨show 7 + 1 ≤ (8 * lv + 26) from by omega, show 8 + (2 + 11) + 230 ≤ (220 * lv + 1200) from by omega⟩ hl.1 rfl (Nat.le_of_ble_eq_true rfl) d_Mpg_forLoop_81 ⟨Nat.le_of_ble_eq_true rfl, Nat.le_of_ble_eq_true rfl⟩ hne hlk hA hAe (fun o t h => Or.inr h) ?_ (fun p234 H locs hp234 hw => ?_)
      · exact fun p1 H1 locs1 hp hw => by obtain ⟨pq1, pq2, pq3, pq4, rfl, hq1, hq2⟩ := hp; exact ⟨_, ⟨pq1, pq2, pq3, pq4, rfl, hq1, hq2⟩, hw⟩
      obtain ⟨pf233, rfl, e236, e237, e238, e239, e240, e241, e242, e243⟩ := hp234
      have e236 : (pf233 11).toInt = (pf209 11).toInt + 1 := e236
      have e237 : (pf233 11).toInt < (tf 6).toInt := e237
      have e238 : bp ta (pf209 11) + 1 ≤ bp ta (pf233 11) := e238
      have e239 : (pf233 12).toInt = (pf209 12).toInt := e239
      have e240 : (pf233 13).toInt = (pf209 13).toInt := e240
      have e241 : (pf233 24).toInt = (pf209 24).toInt := e241
      have e242 : (pf233 25).toInt = (pf209 25).toInt := e242
      have e243 : (pf233 26).toInt = (pf209 26).toInt := e243
      have hw : pw D A s.heap H locs [wdP cs h r g tf ta pf233 na228 ma211 wa212 cf ca ef ea xf xa] := hw
      exact J84 pf233 na228 ma211 wa212 v125 _ _ ls (show (pf233 24).toInt = (pf 24).toInt from by omega) (show (pf233 25).toInt = (pf 25).toInt from by omega) (show (pf233 26).toInt = (pf 26).toInt from by omega) (show (pf233 12).toInt = (pf 12).toInt + 2 from by omega) (show (pf233 12).toInt ≤ 60 from by omega) (show (pf 11).toInt + 2 ≤ (pf233 11).toInt from by omega) (show (pf233 11).toInt < (tf 6).toInt from by omega) (show v125.toInt = (pf 13).toInt from by omega) (show v125.toInt < (pf233 13).toInt from by omega) (show (pf233 13).toInt - (pf 13).toInt + 1 ≤ (pf233 11).toInt - (pf 11).toInt from by omega) (show bp ta (pf 11) + 2 ≤ bp ta (pf233 11) from by omega) (show FrB (pf 13).toInt na ma na228 ma211 from hfb) (show FrW (pf 26).toInt wa wa212 from hfw) (show NdF (tf 6).toInt na228 v125 27 (pf 11) from ⟨by omega, hf_14_v125, hf_15_v125, ⟨by omega, by omega⟩, hf_21_v125⟩) (show FoV ta (tf 6).toInt na228 ma211 v125 (pf233 13).toInt (3 * (bp ta (pf233 11) - bp ta (pf 11)) - 5) (199 - (pf 12).toInt) from (FoV.le (fo_a (hi := (pf233 13).toInt) hf_17_v125 hf_18_v125 hf_19_v125 (VlV.le (st_expr (hi := (pf233 13).toInt) (D := 130) ⟨by omega, hf_14_v195, hf_15_v195, ⟨by omega, by omega⟩, hf_21_v195⟩ hf_17_v195 (by omega) (lo := v195.toInt + 1) (VlV.le (exr_vl ht_v214 (by omega)) (by omega) (by omega) (Int.le_refl _) (by omega)) (by omega)) (by omega) (by omega) (Int.le_refl _) (by omega))) (by omega) (by omega))) hw (lv_sub hl [2, 1] rfl)
  · have nc170 : ¬ v167.toInt = (0 : Int) := mt (i_eq (x := v167) (y := 0)).mpr c170
    refine lv_aload_n S.x S.b d_Mpg_forLoop_28 rfl (lv_at hl 1 rfl) ?_
    refine px_get S k_Mpg hT hw 0 0 17 (v := .ref (r 17)) rfl rfl rfl (by decide) m10_1 d_Mpg_forLoop_29 ?_
    refine lv_iload_n S.x S.b d_Mpg_forLoop_32 rfl (lv_at hl 0 rfl) ?_
    refine lv_aload_n S.x S.b d_Mpg_forLoop_33 rfl (lv_at hl 1 rfl) ?_
    refine th_calli (ps0 := [wdP cs h r g tf ta pf na ma wa cf ca ef ea xf xa]) (pr := []) (pcs := [wdP cs h r g tf ta pf153 na122 ma123 wa cf ca ef ea xf xa]) (As := []) (rest := [.int v125, .ref (r 17)]) (c_mp_declaration l D cs h r g tf ta cf ca ef ea xf xa pf153 na122 ma123 wa  lv (show 0 ≤ (pf153 11).toInt from by omega) (show (pf153 11).toInt < (tf 6).toInt from by omega) (show (tf 6).toInt ≤ 2049 from by omega) (show 0 ≤ (pf153 12).toInt from by omega) (show (pf153 12).toInt ≤ 60 from by omega) (show 0 ≤ (pf153 13).toInt from by omega) (show (pf153 13).toInt ≤ (pf153 11).toInt + 10 from by omega) (show 0 ≤ (pf153 26).toInt from by omega) (show (pf153 26).toInt ≤ (pf153 12).toInt from by omega) (show 61 ≤ (pf153 12).toInt + (lv : Int) from by omega) (show lv ≤ 61 from by omega) (show (pf153 11).toInt + 1 < (tf 6).toInt from by omega) (show so ta (pf153 11) = 2 from by omega) (show 0 ≤ wh ta (pf153 11) from by omega) (show wh ta (pf153 11) ≤ 1 from by omega) hlf htk) S hT hw (oX_call (P := (fun A U H => (oN A U H) ∧ (oP A g U H))) (pr := []) (oG_and oG_N oG_P) hw hA ⟨hN, hP⟩) (px_recv hT hw 0 0 rfl rfl rfl) m12_105 m12_102 m12_104 ms_10_11 m1_21 q_Mpg_declaration ⟨show (8 * lv + 25) + 1 ≤ (8 * lv + 26) from by omega, show 8 + (2 + 11) + (220 * lv + 1160) ≤ (220 * lv + 1200) from by omega⟩ hl.1 rfl (Nat.le_of_ble_eq_true rfl) d_Mpg_forLoop_34 ⟨Nat.le_of_ble_eq_true rfl, Nat.le_of_ble_eq_true rfl⟩ hne hlk hA hAe (fun o t h => Or.inr h) ?_ (fun v253 p252 H locs hp252 hw => ?_)
    · exact fun p1 H1 locs1 hp hw => by obtain ⟨pq1, pq2, pq3, pq4, rfl, hq1, hq2⟩ := hp; exact ⟨_, ⟨pq1, pq2, pq3, pq4, rfl, hq1, hq2⟩, hw⟩
    obtain ⟨pf248, na249, ma250, wa251, rfl, e254, e255, e256, e257, e258, e259, e260, e261, e262, e263, e264, e265, e266⟩ := hp252
    have e254 : (pf153 11).toInt + 1 ≤ (pf248 11).toInt := e254
    have e255 : (pf248 11).toInt < (tf 6).toInt := e255
    have e256 : (pf153 13).toInt + 1 ≤ (pf248 13).toInt := e256
    have e257 : (pf248 13).toInt - (pf153 13).toInt ≤ (pf248 11).toInt - (pf153 11).toInt := e257
    have e258 : bp ta (pf153 11) + 1 ≤ bp ta (pf248 11) := e258
    have e259 : (pf248 12).toInt = (pf153 12).toInt := e259
    have e260 : (pf248 24).toInt = (pf153 24).toInt := e260
    have e261 : (pf248 25).toInt = (pf153 25).toInt := e261
    have e262 : (pf248 26).toInt = (pf153 26).toInt := e262
    have e263 : FrB (pf153 13).toInt na122 ma123 na249 ma250 := e263
    have hf_14_v125 := (fb_n e263 (by omega) (by omega)).trans hf_14_v125
    have hf_15_v125 := (fb_n e263 (by omega) (by omega)).trans hf_15_v125
    have hf_17_v125 := (fb_n e263 (by omega) (by omega)).trans hf_17_v125
    have hf_18_v125 := (fb_m e263 (by omega) (by omega)).trans hf_18_v125
    have hf_19_v125 := (fb_m e263 (by omega) (by omega)).trans hf_19_v125
    have hf_21_v125 := (fb_n e263 (by omega) (by omega)).trans hf_21_v125
    have hfb := hfb.tr e263 (by omega)
    have e264 : FrW (pf153 26).toInt wa wa251 := e264
    have hfw := hfw.tr e264 (by omega)
    have e265 : VlS ta (tf 6).toInt na249 ma250 v253 (pf153 13).toInt (pf248 13).toInt (3 * (bp ta (pf248 11) - bp ta (pf153 11))) (200 - (pf153 12).toInt) := e265
    have hv_v253 := e265
    have hn_hv_v253 := hv_v253.num fs_ok
    have e266 : DcN na249 v253 := e266
    have hw : pw D A s.heap H locs [wdP cs h r g tf ta pf248 na249 ma250 wa251 cf ca ef ea xf xa] := hw
    have lv253 := Int32.le_toInt v253
    have uv253 := Int32.toInt_lt v253
    refine px_iast S hT hw 0 13 (n := 2100) (f := (na249 17)) (x := v125) (y := v253) rfl gp_17 (vp_in_iff.mpr (by constructor <;> omega)) d_Mpg_forLoop_37 (w' := wdP cs h r g tf ta pf248 (va_up na249 17 (upd (na249 17) v125.toNatClampNeg v253)) ma250 wa251 cf ca ef ea xf xa) (ps' := [wdP cs h r g tf ta pf248 (va_up na249 17 (upd (na249 17) v125.toNatClampNeg v253)) ma250 wa251 cf ca ef ea xf xa]) sp_17 rfl (fun H locs hw => ?_)
    obtain ⟨na267, hu_na267⟩ : ∃ y : Nat → Nat → Int32, y = va_up na249 17 (upd (na249 17) v125.toNatClampNeg v253) := ⟨_, rfl⟩
    have hw : pw D A s.heap _ _ [wdP cs h r g tf ta pf248 na267 ma250 wa251 cf ca ef ea xf xa] := (by rw [hu_na267]; exact hw)
    have hv_v253 := hv_v253.ag fs_ok (ag_n hu_na267 (by omega) (by omega))
    have hf_14_v125 := (fl_n hu_na267 (by decide)).trans hf_14_v125
    have hf_15_v125 := (fl_n hu_na267 (by decide)).trans hf_15_v125
    have hf_21_v125 := (fl_n hu_na267 (by decide)).trans hf_21_v125
    have hf_17_v125 : na267 17 v125.toNatClampNeg = v253 := (by rw [hu_na267, va_up_s, pk_us])
    have hfb : FrB (pf 13).toInt na ma na267 ma250 := (by rw [hu_na267]; exact FrB.un hfb (by omega) (by omega))
    refine lv_goto (tgt := 84) S.x S.b d_Mpg_forLoop_38 (by decide) ?_
    exact J84 pf248 na267 ma250 wa251 v125 _ _ ls (show (pf248 24).toInt = (pf 24).toInt from by omega) (show (pf248 25).toInt = (pf 25).toInt from by omega) (show (pf248 26).toInt = (pf 26).toInt from by omega) (show (pf248 12).toInt = (pf 12).toInt + 2 from by omega) (show (pf248 12).toInt ≤ 60 from by omega) (show (pf 11).toInt + 2 ≤ (pf248 11).toInt from by omega) (show (pf248 11).toInt < (tf 6).toInt from by omega) (show v125.toInt = (pf 13).toInt from by omega) (show v125.toInt < (pf248 13).toInt from by omega) (show (pf248 13).toInt - (pf 13).toInt + 1 ≤ (pf248 11).toInt - (pf 11).toInt from by omega) (show bp ta (pf 11) + 2 ≤ bp ta (pf248 11) from by omega) (show FrB (pf 13).toInt na ma na267 ma250 from hfb) (show FrW (pf 26).toInt wa wa251 from hfw) (show NdF (tf 6).toInt na267 v125 27 (pf 11) from ⟨by omega, hf_14_v125, hf_15_v125, ⟨by omega, by omega⟩, hf_21_v125⟩) (show FoV ta (tf 6).toInt na267 ma250 v125 (pf248 13).toInt (3 * (bp ta (pf248 11) - bp ta (pf 11)) - 5) (199 - (pf 12).toInt) from (FoV.le (fo_a (hi := (pf248 13).toInt) hf_17_v125 hf_18_v125 hf_19_v125 (VlV.le hv_v253 (by omega) (by omega) (Int.le_refl _) (by omega))) (by omega) (by omega))) hw (lv_sub hl [1, 0] rfl)
