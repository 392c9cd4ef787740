theorem m12_31 : Cond.methodLink "HomeSystemModel$Program" 436 ⟨"HomeSystemModel$Program", "primary", "()I"⟩ ∈ AL := AL_12 (List.mem_of_getElem? (i := 31) rfl) rfl
theorem m12_34 : Cond.code ⟨"HomeSystemModel$Program", "primary", "()I"⟩ prog_16_method_40_code 3 (Option.some FieldType.int) ∈ AL := AL_12 (List.mem_of_getElem? (i := 34) rfl) rfl
theorem ms_9_10 : Cond.selects "HomeSystemModel$Program" ⟨"HomeSystemModel$Program", "primary", "()I"⟩ ⟨"HomeSystemModel$Program", "primary", "()I"⟩ ∈ AL := AL_p (q := (⟨"HomeSystemModel$Program", "primary", "()I"⟩, 69)) (by unfold lw_privs; exact List.mem_append_right _ (List.mem_append_right _ (List.mem_append_right _ (List.mem_append_right _ (List.mem_append_right _ (List.mem_append_right _ (List.mem_append_right _ (List.mem_append_right _ (List.mem_append_left _ (List.mem_of_getElem? (i := 10) rfl))))))))))
theorem m12_33 : Cond.instanceMethod ⟨"HomeSystemModel$Program", "primary", "()I"⟩ ∈ AL := AL_12 (List.mem_of_getElem? (i := 33) rfl) rfl
theorem m12_43 : Cond.methodLink "HomeSystemModel$Program" 400 ⟨"HomeSystemModel$Program", "stands", "(I)V"⟩ ∈ AL := AL_12 (List.mem_of_getElem? (i := 43) rfl) rfl
theorem m12_46 : Cond.code ⟨"HomeSystemModel$Program", "stands", "(I)V"⟩ prog_16_method_34_code 2 (Option.none : Option Jvm.ClassFile.FieldType) ∈ AL := AL_12 (List.mem_of_getElem? (i := 46) rfl) rfl
theorem ms_9_13 : Cond.selects "HomeSystemModel$Program" ⟨"HomeSystemModel$Program", "stands", "(I)V"⟩ ⟨"HomeSystemModel$Program", "stands", "(I)V"⟩ ∈ AL := AL_p (q := (⟨"HomeSystemModel$Program", "stands", "(I)V"⟩, 69)) (by unfold lw_privs; exact List.mem_append_right _ (List.mem_append_right _ (List.mem_append_right _ (List.mem_append_right _ (List.mem_append_right _ (List.mem_append_right _ (List.mem_append_right _ (List.mem_append_right _ (List.mem_append_left _ (List.mem_of_getElem? (i := 13) rfl))))))))))
theorem m12_45 : Cond.instanceMethod ⟨"HomeSystemModel$Program", "stands", "(I)V"⟩ ∈ AL := AL_12 (List.mem_of_getElem? (i := 45) rfl) rfl
theorem m12_62 : Cond.methodLink "HomeSystemModel$Program" 418 ⟨"HomeSystemModel$Program", "isNothing", "(I)Z"⟩ ∈ AL := AL_12 (List.mem_of_getElem? (i := 62) rfl) rfl
theorem m12_65 : Cond.code ⟨"HomeSystemModel$Program", "isNothing", "(I)Z"⟩ prog_16_method_35_code 2 (Option.some FieldType.boolean) ∈ AL := AL_12 (List.mem_of_getElem? (i := 65) rfl) rfl
theorem ms_10_1 : Cond.selects "HomeSystemModel$Program" ⟨"HomeSystemModel$Program", "isNothing", "(I)Z"⟩ ⟨"HomeSystemModel$Program", "isNothing", "(I)Z"⟩ ∈ AL := AL_p (q := (⟨"HomeSystemModel$Program", "isNothing", "(I)Z"⟩, 69)) (by unfold lw_privs; exact List.mem_append_right _ (List.mem_append_right _ (List.mem_append_right _ (List.mem_append_right _ (List.mem_append_right _ (List.mem_append_right _ (List.mem_append_right _ (List.mem_append_right _ (List.mem_append_right _ (List.mem_append_left _ (List.mem_of_getElem? (i := 1) rfl)))))))))))
theorem m12_64 : Cond.instanceMethod ⟨"HomeSystemModel$Program", "isNothing", "(I)Z"⟩ ∈ AL := AL_12 (List.mem_of_getElem? (i := 64) rfl) rfl
theorem m12_23 : Cond.methodLink "HomeSystemModel$Program" 430 ⟨"HomeSystemModel$Program", "isPrefix", "()Z"⟩ ∈ AL := AL_12 (List.mem_of_getElem? (i := 23) rfl) rfl
theorem m12_26 : Cond.code ⟨"HomeSystemModel$Program", "isPrefix", "()Z"⟩ prog_16_method_30_code 1 (Option.some FieldType.boolean) ∈ AL := AL_12 (List.mem_of_getElem? (i := 26) rfl) rfl
theorem ms_9_8 : Cond.selects "HomeSystemModel$Program" ⟨"HomeSystemModel$Program", "isPrefix", "()Z"⟩ ⟨"HomeSystemModel$Program", "isPrefix", "()Z"⟩ ∈ AL := AL_p (q := (⟨"HomeSystemModel$Program", "isPrefix", "()Z"⟩, 69)) (by unfold lw_privs; exact List.mem_append_right _ (List.mem_append_right _ (List.mem_append_right _ (List.mem_append_right _ (List.mem_append_right _ (List.mem_append_right _ (List.mem_append_right _ (List.mem_append_right _ (List.mem_append_left _ (List.mem_of_getElem? (i := 8) rfl))))))))))
theorem m12_25 : Cond.instanceMethod ⟨"HomeSystemModel$Program", "isPrefix", "()Z"⟩ ∈ AL := AL_12 (List.mem_of_getElem? (i := 25) rfl) rfl
theorem m12_27 : Cond.methodLink "HomeSystemModel$Program" 433 ⟨"HomeSystemModel$Program", "postfix", "()I"⟩ ∈ AL := AL_12 (List.mem_of_getElem? (i := 27) rfl) rfl
theorem m12_30 : Cond.code ⟨"HomeSystemModel$Program", "postfix", "()I"⟩ prog_16_method_39_code 3 (Option.some FieldType.int) ∈ AL := AL_12 (List.mem_of_getElem? (i := 30) rfl) rfl
theorem ms_9_9 : Cond.selects "HomeSystemModel$Program" ⟨"HomeSystemModel$Program", "postfix", "()I"⟩ ⟨"HomeSystemModel$Program", "postfix", "()I"⟩ ∈ AL := AL_p (q := (⟨"HomeSystemModel$Program", "postfix", "()I"⟩, 69)) (by unfold lw_privs; exact List.mem_append_right _ (List.mem_append_right _ (List.mem_append_right _ (List.mem_append_right _ (List.mem_append_right _ (List.mem_append_right _ (List.mem_append_right _ (List.mem_append_right _ (List.mem_append_left _ (List.mem_of_getElem? (i := 9) rfl))))))))))
theorem m12_29 : Cond.instanceMethod ⟨"HomeSystemModel$Program", "postfix", "()I"⟩ ∈ AL := AL_12 (List.mem_of_getElem? (i := 29) rfl) rfl
abbrev b_Mpg_postfix : ByteArray := prog_16_method_39_code
def y_Mpg_postfix : MethodName := ⟨"HomeSystemModel$Program", "postfix", "()I"⟩
theorem d_Mpg_postfix_0 : decode b_Mpg_postfix 0 = .ok (.aload_n 0, 1) := by decide +kernel
theorem d_Mpg_postfix_1 : decode b_Mpg_postfix 1 = .ok (.invokevirtual 436, 3) := by decide +kernel
theorem d_Mpg_postfix_4 : decode b_Mpg_postfix 4 = .ok (.istore_n 1, 1) := by decide +kernel
theorem d_Mpg_postfix_5 : decode b_Mpg_postfix 5 = .ok (.aload_n 0, 1) := by decide +kernel
theorem d_Mpg_postfix_6 : decode b_Mpg_postfix 6 = .ok (.ldc 83, 2) := by decide +kernel
theorem d_Mpg_postfix_8 : decode b_Mpg_postfix 8 = .ok (.invokevirtual 366, 3) := by decide +kernel
theorem d_Mpg_postfix_11 : decode b_Mpg_postfix 11 = .ok (.ifCond .ne 12, 3) := by decide +kernel
theorem d_Mpg_postfix_14 : decode b_Mpg_postfix 14 = .ok (.aload_n 0, 1) := by decide +kernel
theorem d_Mpg_postfix_15 : decode b_Mpg_postfix 15 = .ok (.ldc 85, 2) := by decide +kernel
theorem d_Mpg_postfix_17 : decode b_Mpg_postfix 17 = .ok (.invokevirtual 366, 3) := by decide +kernel
theorem d_Mpg_postfix_20 : decode b_Mpg_postfix 20 = .ok (.ifCond .eq 64, 3) := by decide +kernel
theorem d_Mpg_postfix_23 : decode b_Mpg_postfix 23 = .ok (.aload_n 0, 1) := by decide +kernel
theorem d_Mpg_postfix_24 : decode b_Mpg_postfix 24 = .ok (.iload_n 1, 1) := by decide +kernel
theorem d_Mpg_postfix_25 : decode b_Mpg_postfix 25 = .ok (.invokevirtual 400, 3) := by decide +kernel
theorem d_Mpg_postfix_28 : decode b_Mpg_postfix 28 = .ok (.aload_n 0, 1) := by decide +kernel
theorem d_Mpg_postfix_29 : decode b_Mpg_postfix 29 = .ok (.bipush 6, 2) := by decide +kernel
theorem d_Mpg_postfix_31 : decode b_Mpg_postfix 31 = .ok (.aload_n 0, 1) := by decide +kernel
theorem d_Mpg_postfix_32 : decode b_Mpg_postfix 32 = .ok (.getfield 360, 3) := by decide +kernel
theorem d_Mpg_postfix_35 : decode b_Mpg_postfix 35 = .ok (.invokevirtual 406, 3) := by decide +kernel
theorem d_Mpg_postfix_38 : decode b_Mpg_postfix 38 = .ok (.istore_n 2, 1) := by decide +kernel
theorem d_Mpg_postfix_39 : decode b_Mpg_postfix 39 = .ok (.aload_n 0, 1) := by decide +kernel
theorem d_Mpg_postfix_40 : decode b_Mpg_postfix 40 = .ok (.getfield 213, 3) := by decide +kernel
theorem d_Mpg_postfix_43 : decode b_Mpg_postfix 43 = .ok (.iload_n 2, 1) := by decide +kernel
theorem d_Mpg_postfix_44 : decode b_Mpg_postfix 44 = .ok (.aload_n 0, 1) := by decide +kernel
theorem d_Mpg_postfix_45 : decode b_Mpg_postfix 45 = .ok (.getfield 213, 3) := by decide +kernel
theorem d_Mpg_postfix_48 : decode b_Mpg_postfix 48 = .ok (.iload_n 1, 1) := by decide +kernel
theorem d_Mpg_postfix_49 : decode b_Mpg_postfix 49 = .ok (.iaload, 1) := by decide +kernel
theorem d_Mpg_postfix_50 : decode b_Mpg_postfix 50 = .ok (.iastore, 1) := by decide +kernel
theorem d_Mpg_postfix_51 : decode b_Mpg_postfix 51 = .ok (.aload_n 0, 1) := by decide +kernel
theorem d_Mpg_postfix_52 : decode b_Mpg_postfix 52 = .ok (.getfield 234, 3) := by decide +kernel
theorem d_Mpg_postfix_55 : decode b_Mpg_postfix 55 = .ok (.iload_n 2, 1) := by decide +kernel
theorem d_Mpg_postfix_56 : decode b_Mpg_postfix 56 = .ok (.iconst 1, 1) := by decide +kernel
theorem d_Mpg_postfix_57 : decode b_Mpg_postfix 57 = .ok (.aload_n 0, 1) := by decide +kernel
theorem d_Mpg_postfix_58 : decode b_Mpg_postfix 58 = .ok (.getfield 234, 3) := by decide +kernel
theorem d_Mpg_postfix_61 : decode b_Mpg_postfix 61 = .ok (.iload_n 1, 1) := by decide +kernel
theorem d_Mpg_postfix_62 : decode b_Mpg_postfix 62 = .ok (.iaload, 1) := by decide +kernel
theorem d_Mpg_postfix_63 : decode b_Mpg_postfix 63 = .ok (.iadd, 1) := by decide +kernel
theorem d_Mpg_postfix_64 : decode b_Mpg_postfix 64 = .ok (.iastore, 1) := by decide +kernel
theorem d_Mpg_postfix_65 : decode b_Mpg_postfix 65 = .ok (.aload_n 0, 1) := by decide +kernel
theorem d_Mpg_postfix_66 : decode b_Mpg_postfix 66 = .ok (.getfield 216, 3) := by decide +kernel
theorem d_Mpg_postfix_69 : decode b_Mpg_postfix 69 = .ok (.iload_n 2, 1) := by decide +kernel
theorem d_Mpg_postfix_70 : decode b_Mpg_postfix 70 = .ok (.iload_n 1, 1) := by decide +kernel
theorem d_Mpg_postfix_71 : decode b_Mpg_postfix 71 = .ok (.iastore, 1) := by decide +kernel
theorem d_Mpg_postfix_72 : decode b_Mpg_postfix 72 = .ok (.iload_n 2, 1) := by decide +kernel
theorem d_Mpg_postfix_73 : decode b_Mpg_postfix 73 = .ok (.istore_n 1, 1) := by decide +kernel
theorem d_Mpg_postfix_74 : decode b_Mpg_postfix 74 = .ok (.aload_n 0, 1) := by decide +kernel
theorem d_Mpg_postfix_75 : decode b_Mpg_postfix 75 = .ok (.dup, 1) := by decide +kernel
theorem d_Mpg_postfix_76 : decode b_Mpg_postfix 76 = .ok (.getfield 360, 3) := by decide +kernel
theorem d_Mpg_postfix_79 : decode b_Mpg_postfix 79 = .ok (.iconst 1, 1) := by decide +kernel
theorem d_Mpg_postfix_80 : decode b_Mpg_postfix 80 = .ok (.iadd, 1) := by decide +kernel
theorem d_Mpg_postfix_81 : decode b_Mpg_postfix 81 = .ok (.putfield 360, 3) := by decide +kernel
theorem d_Mpg_postfix_84 : decode b_Mpg_postfix 84 = .ok (.iload_n 1, 1) := by decide +kernel
theorem d_Mpg_postfix_85 : decode b_Mpg_postfix 85 = .ok (.ireturn, 1) := by decide +kernel
theorem q_Mpg_postfix : px_y y_Mpg_postfix 0 := by unfold px_y; decide +kernel
set_option maxHeartbeats 4000000 in
set_option maxRecDepth 100000 in
theorem c_mp_postfix (l : Launch) (D : va_G) (cs : Nat → ClassId) (h : Nat) (r : Nat → Nat) (g : Nat → Nat → Option Nat) (tf : Nat → Int32) (ta : Nat → Nat → Int32) (cf : Nat → Int32) (ca : Nat → Nat → Int32) (ef : Nat → Int32) (ea : Nat → Nat → Int32) (xf : Nat → Int32) (xa : Nat → Nat → Int32) (pf : Nat → Int32) (na : Nat → Nat → Int32) (ma : Nat → Nat → Int32) (wa : Nat → Nat → Int32) (lv : Nat) (g0 : 0 ≤ (pf 11).toInt) (g1 : (pf 11).toInt < (tf 6).toInt) (g2 : (tf 6).toInt ≤ 2049) (g3 : 0 ≤ (pf 12).toInt) (g4 : (pf 12).toInt ≤ 60) (g5 : 0 ≤ (pf 13).toInt) (g6 : (pf 13).toInt ≤ (pf 11).toInt + 20) (g7 : 0 ≤ (pf 26).toInt) (g8 : (pf 26).toInt ≤ (pf 12).toInt) (g9 : 61 ≤ (pf 12).toInt + (lv : Int)) (g10 : lv ≤ 61) (hlf : l.flags = pinnedFlags ++ [noTraceFlag]) (htk : TkI tf ta) (hE : LvE l D cs lv) : ThI l y_Mpg_postfix b_Mpg_postfix 3 (.int) D cs (8 * lv + 16) (220 * lv + 600) [.ref h] [wdP cs h r g tf ta pf na ma wa cf ca ef ea xf xa] (oX (fun A U H => (oN A U H) ∧ (oP A g U H)) [wdP cs h r g tf ta pf na ma wa cf ca ef ea xf xa]) "java/lang/IllegalArgumentException" (fun v ps => ∃ (pf' : Nat → Int32) (na' : Nat → Nat → Int32) (ma' : Nat → Nat → Int32) (wa' : Nat → Nat → Int32), (ps = [wdP cs h r g tf ta pf' na' ma' wa' cf ca ef ea xf xa]) ∧ ((pf 11).toInt + 1 ≤ (pf' 11).toInt) ∧ ((pf' 11).toInt < (tf 6).toInt) ∧ ((pf 13).toInt + 1 ≤ (pf' 13).toInt) ∧ ((pf' 13).toInt - (pf 13).toInt ≤ (pf' 11).toInt - (pf 11).toInt) ∧ (bp ta (pf 11) + 1 ≤ bp ta (pf' 11)) ∧ ((pf' 12).toInt = (pf 12).toInt) ∧ ((pf' 24).toInt = (pf 24).toInt) ∧ ((pf' 25).toInt = (pf 25).toInt) ∧ ((pf' 26).toInt = (pf 26).toInt) ∧ (FrB (pf 13).toInt na ma na' ma') ∧ (FrW (pf 26).toInt wa wa') ∧ (ExR ta (tf 6).toInt na' ma' v (pf 13).toInt (pf' 13).toInt (3 * (bp ta (pf' 11) - bp ta (pf 11))) (pf 12).toInt)) (fun ps => ∃ (pf' : Nat → Int32) (na' : Nat → Nat → Int32) (ma' : Nat → Nat → Int32) (wa' : Nat → Nat → Int32), ps = [wdP cs h r g tf ta pf' na' ma' wa' cf ca ef ea xf xa] ∧ 0 ≤ (pf' 11).toInt ∧ (pf' 11).toInt + 1 ≤ (tf 6).toInt) := by
  refine th_enter (by decide) (Nat.le_of_ble_eq_true rfl) ?_
  intro p e s m below meth c A ls hAe S hr hlk hnm hA hT hX hw hl hne hadm
  have hl : lv_has ls 3 [(0, .ref h)] := hl
  have cst1 : (1 : Int32).toInt = 1 := rfl
  have cst6 : (6 : Int32).toInt = 6 := rfl
  have hX : (fun A U H => (oN A U H) ∧ (oP A g U H)) A s s.heap := by rw [hAe]; exact hX
  obtain ⟨hN, hP⟩ := hX
  have hZ := hP.1
  have hF0 := hP.2.1
  have hfb : FrB (pf 13).toInt na ma na ma := FrB.rf
  have hfw : FrW (pf 26).toInt wa wa := FrW.rf
  refine lv_aload_n S.x S.b d_Mpg_postfix_0 rfl (lv_at hl 0 rfl) ?_
  refine th_calli (ps0 := [wdP cs h r g tf ta pf na ma wa cf ca ef ea xf xa]) (pr := []) (pcs := [wdP cs h r g tf ta pf na ma wa cf ca ef ea xf xa]) (As := []) (rest := []) (c_mp_primary l D cs h r g tf ta cf ca ef ea xf xa pf na ma wa  lv (show 0 ≤ (pf 11).toInt from by omega) (show (pf 11).toInt < (tf 6).toInt from by omega) (show (tf 6).toInt ≤ 2049 from by omega) (show 0 ≤ (pf 12).toInt from by omega) (show (pf 12).toInt ≤ 60 from by omega) (show 0 ≤ (pf 13).toInt from by omega) (show (pf 13).toInt ≤ (pf 11).toInt + 20 from by omega) (show 0 ≤ (pf 26).toInt from by omega) (show (pf 26).toInt ≤ (pf 12).toInt from by omega) (show 61 ≤ (pf 12).toInt + (lv : Int) from by omega) (show lv ≤ 61 from by omega) hlf htk hE) S hT hw (oX_call (P := (fun A U H => (oN A U H) ∧ (oP A g U H))) (pr := []) (oG_and oG_N oG_P) hw hA ⟨hN, hP⟩) (px_recv hT hw 0 0 rfl rfl rfl) m12_34 m12_31 m12_33 ms_9_10 m1_21 q_Mpg_primary ⟨show (8 * lv + 15) + 1 ≤ (8 * lv + 16) from by omega, show 8 + (3 + 11) + (220 * lv + 570) ≤ (220 * lv + 600) from by omega⟩ hl.1 rfl (Nat.le_of_ble_eq_true rfl) d_Mpg_postfix_1 ⟨Nat.le_of_ble_eq_true rfl, Nat.le_of_ble_eq_true rfl⟩ hne hlk hA hAe (fun o t h => Or.inr h) ?_ (fun v10 p9 H locs hp9 hw => ?_)
  · exact fun p1 H1 locs1 hp hw => by obtain ⟨pq1, pq2, pq3, pq4, rfl, hq1, hq2⟩ := hp; exact ⟨_, ⟨pq1, pq2, pq3, pq4, rfl, hq1, hq2⟩, hw⟩
  obtain ⟨pf5, na6, ma7, wa8, rfl, e11, e12, e13, e14, e15, e16, e17, e18, e19, e20, e21, e22⟩ := hp9
  have e11 : (pf 11).toInt + 1 ≤ (pf5 11).toInt := e11
  have e12 : (pf5 11).toInt < (tf 6).toInt := e12
  have e13 : (pf 13).toInt + 1 ≤ (pf5 13).toInt := e13
  have e14 : (pf5 13).toInt - (pf 13).toInt ≤ (pf5 11).toInt - (pf 11).toInt := e14
  have e15 : bp ta (pf 11) + 1 ≤ bp ta (pf5 11) := e15
  have e16 : (pf5 12).toInt = (pf 12).toInt := e16
  have e17 : (pf5 24).toInt = (pf 24).toInt := e17
  have e18 : (pf5 25).toInt = (pf 25).toInt := e18
  have e19 : (pf5 26).toInt = (pf 26).toInt := e19
  have e20 : FrB (pf 13).toInt na ma na6 ma7 := e20
  have hfb := hfb.tr e20 (by omega)
  have e21 : FrW (pf 26).toInt wa wa8 := e21
  have hfw := hfw.tr e21 (by omega)
  have e22 : ExR ta (tf 6).toInt na6 ma7 v10 (pf 13).toInt (pf5 13).toInt (3 * (bp ta (pf5 11) - bp ta (pf 11))) (pf 12).toInt := e22
  have ht_v10 := e22
  have hn_ht_v10 := ht_v10.num
  have hw : pw D A s.heap H locs [wdP cs h r g tf ta pf5 na6 ma7 wa8 cf ca ef ea xf xa] := hw
  have lv10 := Int32.le_toInt v10
  have uv10 := Int32.toInt_lt v10
  refine lv_istore_n (lv' := [(1, .int v10), (0, .ref h)]) S.x S.b d_Mpg_postfix_4 rfl hl (by decide) rfl (fun ls hl => ?_)
  refine lv_aload_n S.x S.b d_Mpg_postfix_5 rfl (lv_at hl 1 rfl) ?_
  obtain ⟨sk23, hRsk23, st24, sb25, hSsk23⟩ := oP_lit hP (k := 83) (tx := "++") (n := 2) (List.mem_of_getElem? (i := 33) rfl)
  refine va_ldcS S.x S.b S.own hRsk23 d_Mpg_postfix_6 ?_
  refine px_calli (pr := []) (px_runV (As := [.ref sk23]) (rest := []) S (c_mp_is l D cs sk23 2 h r g tf ta pf5 na6 ma7 wa8 cf ca ef ea xf xa   (show 0 ≤ (pf5 11).toInt from by omega) (show (pf5 11).toInt < (tf 6).toInt from by omega) (show (tf 6).toInt ≤ 2049 from by omega) (show 2 ≤ 100 from by omega) htk _) hT (pr := []) (pcs := [wdP cs h r g tf ta pf5 na6 ma7 wa8 cf ca ef ea xf xa]) hw (oX_call (P := (fun A U H => (oP A g U H) ∧ (StS A sk23 2 U H))) (pr := []) (oG_and oG_P oG_Q) hw hA ⟨hP, ⟨_, _, hSsk23⟩⟩) (px_recv hT hw 0 0 rfl rfl rfl) m11_217 m11_214 m11_216 ms_8_14 m1_21 q_Mpg_is ⟨show 3 + 1 ≤ (8 * lv + 16) from by omega, show 8 + (2 + 11) + 120 ≤ (220 * lv + 600) from by omega⟩ hl.1 rfl (Nat.le_of_ble_eq_true rfl) d_Mpg_postfix_8 ⟨Nat.le_of_ble_eq_true rfl, Nat.le_of_ble_eq_true rfl⟩) hw hA (fun v27 p26 H locs hp26 hw => ?_)
  obtain ⟨rfl, e28, e29⟩ := hp26
  have e28 := z_rng e28
  have e29 : v27.toInt = 1 → (pf5 11).toInt + 1 < (tf 6).toInt ∧ so ta (pf5 11) = 5 := e29
  have hw : pw D A s.heap H locs [wdP cs h r g tf ta pf5 na6 ma7 wa8 cf ca ef ea xf xa] := hw
  have lv27 := Int32.le_toInt v27
  have uv27 := Int32.toInt_lt v27
  refine lv_if_ne (tgt := 23) S.x S.b d_Mpg_postfix_11 (by decide) (fun c30 => ?_) (fun c30 => ?_)
  · have nc30 : ¬ v27.toInt = (0 : Int) := mt (i_eq (x := v27) (y := 0)).mpr c30
    refine lv_aload_n S.x S.b d_Mpg_postfix_23 rfl (lv_at hl 1 rfl) ?_
    refine lv_iload_n S.x S.b d_Mpg_postfix_24 rfl (lv_at hl 0 rfl) ?_
    refine th_callv (ps0 := [wdP cs h r g tf ta pf na ma wa cf ca ef ea xf xa]) (pr := []) (pcs := [wdP cs h r g tf ta pf5 na6 ma7 wa8 cf ca ef ea xf xa]) (As := [.int v10]) (rest := []) (c_mp_stands l D cs h r g tf ta pf5 na6 ma7 wa8 cf ca ef ea xf xa v10  (show 0 ≤ (pf5 11).toInt from by omega) (show (pf5 11).toInt < (tf 6).toInt from by omega) (show 0 ≤ v10.toInt from by omega) (show v10.toInt < 2100 from by omega) (show 0 ≤ dp na6 v10 from by omega) (show dp na6 v10 ≤ 1000 from by omega) (show 0 ≤ (pf5 12).toInt from by omega) (show (pf5 12).toInt ≤ 60 from by omega) hlf htk) S hT hw (oX_call (P := (fun A U H => (oN A U H) ∧ (oP A g U H))) (pr := []) (oG_and oG_N oG_P) hw hA ⟨hN, hP⟩) (px_recv hT hw 0 0 rfl rfl rfl) m12_46 m12_43 m12_45 ms_9_13 m1_21 q_Mpg_stands2 ⟨show 7 + 1 ≤ (8 * lv + 16) from by omega, show 8 + (2 + 11) + 150 ≤ (220 * lv + 600) from by omega⟩ hl.1 rfl (Nat.le_of_ble_eq_true rfl) d_Mpg_postfix_25 ⟨Nat.le_of_ble_eq_true rfl, Nat.le_of_ble_eq_true rfl⟩ hne hlk hA hAe (fun o t h => Or.inr h) ?_ (fun p31 H locs hp31 hw => ?_)
    · exact fun p1 H1 locs1 hp hw => by obtain ⟨pq1, pq2, pq3, pq4, rfl, hq1, hq2⟩ := hp; exact ⟨_, ⟨pq1, pq2, pq3, pq4, rfl, hq1, hq2⟩, hw⟩
    obtain ⟨rfl, e33⟩ := hp31
    have e33 : (pf5 12).toInt + dp na6 v10 < 60 := e33
    have hw : pw D A s.heap H locs [wdP cs h r g tf ta pf5 na6 ma7 wa8 cf ca ef ea xf xa] := hw
    refine lv_aload_n S.x S.b d_Mpg_postfix_28 rfl (lv_at hl 1 rfl) ?_
    refine lv_bipush (v := 6) S.x S.b d_Mpg_postfix_29 (by decide) ?_
    refine lv_aload_n S.x S.b d_Mpg_postfix_31 rfl (lv_at hl 1 rfl) ?_
    refine px_get S k_Mpg hT hw 0 0 11 (v := .int (pf5 11)) rfl rfl rfl (by decide) m9_235 d_Mpg_postfix_32 ?_
    refine px_calli (pr := []) (px_runV (As := [.int 6, .int (pf5 11)]) (rest := []) S (c_mp_make l D cs h r g tf ta wa8 cf ca ef ea xf xa pf5 na6 ma7 6 (pf5 11)  (show 0 ≤ (pf5 13).toInt from by omega) (show (pf5 13).toInt < 2100 from by omega) _) hT (pr := []) (pcs := [wdP cs h r g tf ta pf5 na6 ma7 wa8 cf ca ef ea xf xa]) hw px_X.tt (px_recv hT hw 0 0 rfl rfl rfl) m11_209 m11_206 m11_208 ms_8_12 m1_21 q_Mpg_make ⟨show 0 + 1 ≤ (8 * lv + 16) from by omega, show 8 + (3 + 11) + 0 ≤ (220 * lv + 600) from by omega⟩ hl.1 rfl (Nat.le_of_ble_eq_true rfl) d_Mpg_postfix_35 ⟨Nat.le_of_ble_eq_true rfl, Nat.le_of_ble_eq_true rfl⟩) hw hA (fun v41 p40 H locs hp40 hw => ?_)
    obtain ⟨pf37, na38, ma39, rfl, e42, e43, e44, e45, e46, e47, e48, e49⟩ := hp40
    have e42 : v41.toInt = (pf5 13).toInt := e42
    have e43 : (pf37 13).toInt = (pf5 13).toInt + 1 := e43
    have e44 : (pf37 11).toInt = (pf5 11).toInt := e44
    have e45 : (pf37 12).toInt = (pf5 12).toInt := e45
    have e46 : (pf37 24).toInt = (pf5 24).toInt := e46
    have e47 : (pf37 25).toInt = (pf5 25).toInt := e47
    have e48 : (pf37 26).toInt = (pf5 26).toInt := e48
    have e49 : MkN na6 ma7 na38 ma39 v41 (6 : Int32) (pf5 11) := e49
    obtain ⟨qb501, qb502, qb503, qb504⟩ := tk_eq (ta := ta) (x := (pf37 11)) (y := (pf5 11)) (by omega)
    have hmk_v41 := e49
    have hfm_v41 := MkN.frb (b := v41.toInt) hmk_v41 (by omega) (by omega)
    have ht_v10 := ht_v10.kp (FrB.le hfm_v41 (by omega)) (by omega)
    have hn_ht_v10 := ht_v10.num
    have hdq_v10 := dp_fb (x := v10) hfm_v41 (by omega) (by omega)
    have hfb := hfb.tr hfm_v41 (by omega)
    have hnk_v41 := hmk_v41.nk (by decide) (by decide) (by omega)
    have hdn_v41 := dp_nk hmk_v41
    have hw : pw D A s.heap H locs [wdP cs h r g tf ta pf37 na38 ma39 wa8 cf ca ef ea xf xa] := hw
    have lv41 := Int32.le_toInt v41
    have uv41 := Int32.toInt_lt v41
    refine lv_istore_n (lv' := [(2, .int v41), (1, .int v10), (0, .ref h)]) S.x S.b d_Mpg_postfix_38 rfl hl (by decide) rfl (fun ls hl => ?_)
    refine lv_aload_n S.x S.b d_Mpg_postfix_39 rfl (lv_at hl 2 rfl) ?_
    refine px_get S k_Mpg hT hw 0 0 16 (v := .ref (r 16)) rfl rfl rfl (by decide) m10_0 d_Mpg_postfix_40 ?_
    refine lv_iload_n S.x S.b d_Mpg_postfix_43 rfl (lv_at hl 0 rfl) ?_
    refine lv_aload_n S.x S.b d_Mpg_postfix_44 rfl (lv_at hl 2 rfl) ?_
    refine px_get S k_Mpg hT hw 0 0 16 (v := .ref (r 16)) rfl rfl rfl (by decide) m10_0 d_Mpg_postfix_45 ?_
    refine lv_iload_n S.x S.b d_Mpg_postfix_48 rfl (lv_at hl 1 rfl) ?_
    refine px_iald S hT hw 0 12 (n := 2100) (f := (na38 16)) rfl gp_16 (x := v10) (vp_in_iff.mpr (by constructor <;> omega)) d_Mpg_postfix_49 ?_
    refine lv_topi (fun z51 ez51 => ?_)
    have lz51 := Int32.le_toInt z51
    have uz51 := Int32.toInt_lt z51
    refine px_iast S hT hw 0 12 (n := 2100) (f := (na38 16)) (x := v41) (y := z51) rfl gp_16 (vp_in_iff.mpr (by constructor <;> omega)) d_Mpg_postfix_50 (w' := wdP cs h r g tf ta pf37 (va_up na38 16 (upd (na38 16) v41.toNatClampNeg z51)) ma39 wa8 cf ca ef ea xf xa) (ps' := [wdP cs h r g tf ta pf37 (va_up na38 16 (upd (na38 16) v41.toNatClampNeg z51)) ma39 wa8 cf ca ef ea xf xa]) sp_16 rfl (fun H locs hw => ?_)
    refine lv_aload_n S.x S.b d_Mpg_postfix_51 rfl (lv_at hl 2 rfl) ?_
    refine px_get S k_Mpg hT hw 0 0 23 (v := .ref (r 23)) rfl rfl rfl (by decide) m10_11 d_Mpg_postfix_52 ?_
    refine lv_iload_n S.x S.b d_Mpg_postfix_55 rfl (lv_at hl 0 rfl) ?_
    refine lv_iconst (v := 1) S.x S.b d_Mpg_postfix_56 (by decide) ?_
    refine lv_aload_n S.x S.b d_Mpg_postfix_57 rfl (lv_at hl 2 rfl) ?_
    refine px_get S k_Mpg hT hw 0 0 23 (v := .ref (r 23)) rfl rfl rfl (by decide) m10_11 d_Mpg_postfix_58 ?_
    refine lv_iload_n S.x S.b d_Mpg_postfix_61 rfl (lv_at hl 1 rfl) ?_
    refine px_iald S hT hw 0 19 (n := 2100) (f := ((va_up na38 16 (upd (na38 16) v41.toNatClampNeg z51)) 23)) rfl gp_23 (x := v10) (vp_in_iff.mpr (by constructor <;> omega)) d_Mpg_postfix_62 ?_
    refine lv_topi (fun z52 ez52 => ?_)
    have lz52 := Int32.le_toInt z52
    have uz52 := Int32.toInt_lt z52
    have rz52 : z52.toInt = dp na38 v10 := by have q9 : z52.toInt = dp (va_up na38 16 (upd (na38 16) v41.toNatClampNeg z51)) v10 := (by rw [ez52]; rfl); rw [dp_un (by decide)] at q9; exact q9
    refine lv_iadd S.x S.b d_Mpg_postfix_63 ?_
    refine lv_topi (fun z53 ez53 => ?_)
    have tz53 : z53.toInt = ((1 : Int) + z52.toInt + 2147483648) % 4294967296 - 2147483648 := by rw [ez53]; exact i_add 1 z52
    have lz53 := Int32.le_toInt z53
    have uz53 := Int32.toInt_lt z53
    try replace tz53 : z53.toInt = (1 : Int) + z52.toInt := by omega
    refine px_iast S hT hw 0 19 (n := 2100) (f := ((va_up na38 16 (upd (na38 16) v41.toNatClampNeg z51)) 23)) (x := v41) (y := z53) rfl gp_23 (vp_in_iff.mpr (by constructor <;> omega)) d_Mpg_postfix_64 (w' := wdP cs h r g tf ta pf37 (va_up (va_up na38 16 (upd (na38 16) v41.toNatClampNeg z51)) 23 (upd ((va_up na38 16 (upd (na38 16) v41.toNatClampNeg z51)) 23) v41.toNatClampNeg z53)) ma39 wa8 cf ca ef ea xf xa) (ps' := [wdP cs h r g tf ta pf37 (va_up (va_up na38 16 (upd (na38 16) v41.toNatClampNeg z51)) 23 (upd ((va_up na38 16 (upd (na38 16) v41.toNatClampNeg z51)) 23) v41.toNatClampNeg z53)) ma39 wa8 cf ca ef ea xf xa]) sp_23 rfl (fun H locs hw => ?_)
    refine lv_aload_n S.x S.b d_Mpg_postfix_65 rfl (lv_at hl 2 rfl) ?_
    refine px_get S k_Mpg hT hw 0 0 17 (v := .ref (r 17)) rfl rfl rfl (by decide) m10_1 d_Mpg_postfix_66 ?_
    refine lv_iload_n S.x S.b d_Mpg_postfix_69 rfl (lv_at hl 0 rfl) ?_
    refine lv_iload_n S.x S.b d_Mpg_postfix_70 rfl (lv_at hl 1 rfl) ?_
    refine px_iast S hT hw 0 13 (n := 2100) (f := ((va_up (va_up na38 16 (upd (na38 16) v41.toNatClampNeg z51)) 23 (upd ((va_up na38 16 (upd (na38 16) v41.toNatClampNeg z51)) 23) v41.toNatClampNeg z53)) 17)) (x := v41) (y := v10) rfl gp_17 (vp_in_iff.mpr (by constructor <;> omega)) d_Mpg_postfix_71 (w' := wdP cs h r g tf ta pf37 (va_up (va_up (va_up na38 16 (upd (na38 16) v41.toNatClampNeg z51)) 23 (upd ((va_up na38 16 (upd (na38 16) v41.toNatClampNeg z51)) 23) v41.toNatClampNeg z53)) 17 (upd ((va_up (va_up na38 16 (upd (na38 16) v41.toNatClampNeg z51)) 23 (upd ((va_up na38 16 (upd (na38 16) v41.toNatClampNeg z51)) 23) v41.toNatClampNeg z53)) 17) v41.toNatClampNeg v10)) ma39 wa8 cf ca ef ea xf xa) (ps' := [wdP cs h r g tf ta pf37 (va_up (va_up (va_up na38 16 (upd (na38 16) v41.toNatClampNeg z51)) 23 (upd ((va_up na38 16 (upd (na38 16) v41.toNatClampNeg z51)) 23) v41.toNatClampNeg z53)) 17 (upd ((va_up (va_up na38 16 (upd (na38 16) v41.toNatClampNeg z51)) 23 (upd ((va_up na38 16 (upd (na38 16) v41.toNatClampNeg z51)) 23) v41.toNatClampNeg z53)) 17) v41.toNatClampNeg v10)) ma39 wa8 cf ca ef ea xf xa]) sp_17 rfl (fun H locs hw => ?_)
    refine lv_iload_n S.x S.b d_Mpg_postfix_72 rfl (lv_at hl 0 rfl) ?_
    refine lv_istore_n (lv' := [(1, .int v41), (2, .int v41), (0, .ref h)]) S.x S.b d_Mpg_postfix_73 rfl hl (by decide) rfl (fun ls hl => ?_)
    refine lv_aload_n S.x S.b d_Mpg_postfix_74 rfl (lv_at hl 2 rfl) ?_
    refine lv_dup S.x S.b d_Mpg_postfix_75 rfl ?_
    refine px_get S k_Mpg hT hw 0 0 11 (v := .int (pf37 11)) rfl rfl rfl (by decide) m9_235 d_Mpg_postfix_76 ?_
    refine lv_iconst (v := 1) S.x S.b d_Mpg_postfix_79 (by decide) ?_
    refine lv_iadd S.x S.b d_Mpg_postfix_80 ?_
    have lr54 := Int32.le_toInt (pf37 11)
    have ur54 := Int32.toInt_lt (pf37 11)
    refine lv_topi (fun z55 ez55 => ?_)
    have tz55 : z55.toInt = ((pf37 11).toInt + (1 : Int) + 2147483648) % 4294967296 - 2147483648 := by rw [ez55]; exact i_add (pf37 11) 1
    have lz55 := Int32.le_toInt z55
    have uz55 := Int32.toInt_lt z55
    try replace tz55 : z55.toInt = (pf37 11).toInt + (1 : Int) := by omega
    have hnx80 := tk_n htk (x := (pf37 11)) (y := z55) (by omega) (by omega) (by omega)
    refine px_put S k_Mpg hT hw 0 0 11 rfl rfl (by decide) m9_235 rfl rfl rfl (Nat.le_of_ble_eq_true rfl) d_Mpg_postfix_81 (w' := wdP cs h r g tf ta (upd pf37 11 z55) (va_up (va_up (va_up na38 16 (upd (na38 16) v41.toNatClampNeg z51)) 23 (upd ((va_up na38 16 (upd (na38 16) v41.toNatClampNeg z51)) 23) v41.toNatClampNeg z53)) 17 (upd ((va_up (va_up na38 16 (upd (na38 16) v41.toNatClampNeg z51)) 23 (upd ((va_up na38 16 (upd (na38 16) v41.toNatClampNeg z51)) 23) v41.toNatClampNeg z53)) 17) v41.toNatClampNeg v10)) ma39 wa8 cf ca ef ea xf xa) (ps' := [wdP cs h r g tf ta (upd pf37 11 z55) (va_up (va_up (va_up na38 16 (upd (na38 16) v41.toNatClampNeg z51)) 23 (upd ((va_up na38 16 (upd (na38 16) v41.toNatClampNeg z51)) 23) v41.toNatClampNeg z53)) 17 (upd ((va_up (va_up na38 16 (upd (na38 16) v41.toNatClampNeg z51)) 23 (upd ((va_up na38 16 (upd (na38 16) v41.toNatClampNeg z51)) 23) v41.toNatClampNeg z53)) 17) v41.toNatClampNeg v10)) ma39 wa8 cf ca ef ea xf xa]) rfl rfl (fun H locs hw => ?_)
    refine lv_iload_n S.x S.b d_Mpg_postfix_84 rfl (lv_at hl 0 rfl) ?_
    exact th_iret (v := v41) S hr rfl hlk hAe hw (⟨(upd pf37 11 z55), (va_up (va_up (va_up na38 16 (upd (na38 16) v41.toNatClampNeg z51)) 23 (upd ((va_up na38 16 (upd (na38 16) v41.toNatClampNeg z51)) 23) v41.toNatClampNeg z53)) 17 (upd ((va_up (va_up na38 16 (upd (na38 16) v41.toNatClampNeg z51)) 23 (upd ((va_up na38 16 (upd (na38 16) v41.toNatClampNeg z51)) 23) v41.toNatClampNeg z53)) 17) v41.toNatClampNeg v10)), ma39, wa8, rfl, (show (pf 11).toInt + 1 ≤ z55.toInt from by omega), (show z55.toInt < (tf 6).toInt from by omega), (show (pf 13).toInt + 1 ≤ (pf37 13).toInt from by omega), (show (pf37 13).toInt - (pf 13).toInt ≤ z55.toInt - (pf 11).toInt from by omega), (show bp ta (pf 11) + 1 ≤ bp ta z55 from by omega), (show (pf37 12).toInt = (pf 12).toInt from by omega), (show (pf37 24).toInt = (pf 24).toInt from by omega), (show (pf37 25).toInt = (pf 25).toInt from by omega), (show (pf37 26).toInt = (pf 26).toInt from by omega), (show FrB (pf 13).toInt na ma (va_up (va_up (va_up na38 16 (upd (na38 16) v41.toNatClampNeg z51)) 23 (upd ((va_up na38 16 (upd (na38 16) v41.toNatClampNeg z51)) 23) v41.toNatClampNeg z53)) 17 (upd ((va_up (va_up na38 16 (upd (na38 16) v41.toNatClampNeg z51)) 23 (upd ((va_up na38 16 (upd (na38 16) v41.toNatClampNeg z51)) 23) v41.toNatClampNeg z53)) 17) v41.toNatClampNeg v10)) ma39 from (FrB.un (FrB.un (FrB.un hfb (by omega) (by omega)) (by omega) (by omega)) (by omega) (by omega))), (show FrW (pf 26).toInt wa wa8 from hfw), (show ExR ta (tf 6).toInt (va_up (va_up (va_up na38 16 (upd (na38 16) v41.toNatClampNeg z51)) 23 (upd ((va_up na38 16 (upd (na38 16) v41.toNatClampNeg z51)) 23) v41.toNatClampNeg z53)) 17 (upd ((va_up (va_up na38 16 (upd (na38 16) v41.toNatClampNeg z51)) 23 (upd ((va_up na38 16 (upd (na38 16) v41.toNatClampNeg z51)) 23) v41.toNatClampNeg z53)) 17) v41.toNatClampNeg v10)) ma39 v41 (pf 13).toInt (pf37 13).toInt (3 * (bp ta z55 - bp ta (pf 11))) (pf 12).toInt from (ExR.le (exr_up ht_v10 (by omega) (fun x hx => ⟨fun j => by rw [up_far hx, up_far hx, up_far hx], fun _ => rfl⟩) (by omega) (Or.inr (by rw [va_up_n (by decide), va_up_n (by decide), va_up_n (by decide), hnk_v41.1]; rfl)) (ndt_of (by rw [va_up_n (by decide), va_up_n (by decide), va_up_n (by decide), hnk_v41.2.1]) (by omega) (by omega) (by omega)) (by rw [va_up_s, pk_us]) (fun h5 => absurd h5 (by rw [va_up_n (by decide), va_up_n (by decide), va_up_n (by decide), hnk_v41.1]; decide)) (by rw [dp_un (by decide), dp_us]; omega) (by rw [dp_un (by decide), dp_us]; omega) (by rw [dp_un (by decide), dp_us]; omega) ⟨(by rw [va_up_n (by decide), va_up_n (by decide), va_up_n (by decide), hnk_v41.2.2.1]; decide), (by rw [hnk_v41.2.2.2.2]; decide)⟩) (by omega) (by omega) (by omega) (Int.le_refl _)))⟩) d_Mpg_postfix_85
  · have nc30 : v27.toInt = (0 : Int) := (i_eq (x := v27) (y := 0)).mp c30
    refine lv_aload_n S.x S.b d_Mpg_postfix_14 rfl (lv_at hl 1 rfl) ?_
    obtain ⟨sk56, hRsk56, st57, sb58, hSsk56⟩ := oP_lit hP (k := 85) (tx := "--") (n := 2) (List.mem_of_getElem? (i := 34) rfl)
    refine va_ldcS S.x S.b S.own hRsk56 d_Mpg_postfix_15 ?_
    refine px_calli (pr := []) (px_runV (As := [.ref sk56]) (rest := []) S (c_mp_is l D cs sk56 2 h r g tf ta pf5 na6 ma7 wa8 cf ca ef ea xf xa   (show 0 ≤ (pf5 11).toInt from by omega) (show (pf5 11).toInt < (tf 6).toInt from by omega) (show (tf 6).toInt ≤ 2049 from by omega) (show 2 ≤ 100 from by omega) htk _) hT (pr := []) (pcs := [wdP cs h r g tf ta pf5 na6 ma7 wa8 cf ca ef ea xf xa]) hw (oX_call (P := (fun A U H => (oP A g U H) ∧ (StS A sk56 2 U H))) (pr := []) (oG_and oG_P oG_Q) hw hA ⟨hP, ⟨_, _, hSsk56⟩⟩) (px_recv hT hw 0 0 rfl rfl rfl) m11_217 m11_214 m11_216 ms_8_14 m1_21 q_Mpg_is ⟨show 3 + 1 ≤ (8 * lv + 16) from by omega, show 8 + (2 + 11) + 120 ≤ (220 * lv + 600) from by omega⟩ hl.1 rfl (Nat.le_of_ble_eq_true rfl) d_Mpg_postfix_17 ⟨Nat.le_of_ble_eq_true rfl, Nat.le_of_ble_eq_true rfl⟩) hw hA (fun v60 p59 H locs hp59 hw => ?_)
    obtain ⟨rfl, e61, e62⟩ := hp59
    have e61 := z_rng e61
    have e62 : v60.toInt = 1 → (pf5 11).toInt + 1 < (tf 6).toInt ∧ so ta (pf5 11) = 5 := e62
    have hw : pw D A s.heap H locs [wdP cs h r g tf ta pf5 na6 ma7 wa8 cf ca ef ea xf xa] := hw
    have lv60 := Int32.le_toInt v60
    have uv60 := Int32.toInt_lt v60
    refine lv_if_eq (tgt := 84) S.x S.b d_Mpg_postfix_20 (by decide) (fun c63 => ?_) (fun c63 => ?_)
    · have nc63 : v60.toInt = (0 : Int) := (i_eq (x := v60) (y := 0)).mp c63
      refine lv_iload_n S.x S.b d_Mpg_postfix_84 rfl (lv_at hl 0 rfl) ?_
      exact th_iret (v := v10) S hr rfl hlk hAe hw (⟨pf5, na6, ma7, wa8, rfl, (show (pf 11).toInt + 1 ≤ (pf5 11).toInt from by omega), (show (pf5 11).toInt < (tf 6).toInt from by omega), (show (pf 13).toInt + 1 ≤ (pf5 13).toInt from by omega), (show (pf5 13).toInt - (pf 13).toInt ≤ (pf5 11).toInt - (pf 11).toInt from by omega), (show bp ta (pf 11) + 1 ≤ bp ta (pf5 11) from by omega), (show (pf5 12).toInt = (pf 12).toInt from by omega), (show (pf5 24).toInt = (pf 24).toInt from by omega), (show (pf5 25).toInt = (pf 25).toInt from by omega), (show (pf5 26).toInt = (pf 26).toInt from by omega), (show FrB (pf 13).toInt na ma na6 ma7 from hfb), (show FrW (pf 26).toInt wa wa8 from hfw), (show ExR ta (tf 6).toInt na6 ma7 v10 (pf 13).toInt (pf5 13).toInt (3 * (bp ta (pf5 11) - bp ta (pf 11))) (pf 12).toInt from (ExR.le ht_v10 (by omega) (by omega) (by omega) (by omega)))⟩) d_Mpg_postfix_85
    · have nc63 : ¬ v60.toInt = (0 : Int) := mt (i_eq (x := v60) (y := 0)).mpr c63
      refine lv_aload_n S.x S.b d_Mpg_postfix_23 rfl (lv_at hl 1 rfl) ?_
      refine lv_iload_n S.x S.b d_Mpg_postfix_24 rfl (lv_at hl 0 rfl) ?_
      refine th_callv (ps0 := [wdP cs h r g tf ta pf na ma wa cf ca ef ea xf xa]) (pr := []) (pcs := [wdP cs h r g tf ta pf5 na6 ma7 wa8 cf ca ef ea xf xa]) (As := [.int v10]) (rest := []) (c_mp_stands l D cs h r g tf ta pf5 na6 ma7 wa8 cf ca ef ea xf xa v10  (show 0 ≤ (pf5 11).toInt from by omega) (show (pf5 11).toInt < (tf 6).toInt from by omega) (show 0 ≤ v10.toInt from by omega) (show v10.toInt < 2100 from by omega) (show 0 ≤ dp na6 v10 from by omega) (show dp na6 v10 ≤ 1000 from by omega) (show 0 ≤ (pf5 12).toInt from by omega) (show (pf5 12).toInt ≤ 60 from by omega) hlf htk) S hT hw (oX_call (P := (fun A U H => (oN A U H) ∧ (oP A g U H))) (pr := []) (oG_and oG_N oG_P) hw hA ⟨hN, hP⟩) (px_recv hT hw 0 0 rfl rfl rfl) m12_46 m12_43 m12_45 ms_9_13 m1_21 q_Mpg_stands2 ⟨show 7 + 1 ≤ (8 * lv + 16) from by omega, show 8 + (2 + 11) + 150 ≤ (220 * lv + 600) from by omega⟩ hl.1 rfl (Nat.le_of_ble_eq_true rfl) d_Mpg_postfix_25 ⟨Nat.le_of_ble_eq_true rfl, Nat.le_of_ble_eq_true rfl⟩ hne hlk hA hAe (fun o t h => Or.inr h) ?_ (fun p64 H locs hp64 hw => ?_)
      · exact fun p1 H1 locs1 hp hw => by obtain ⟨pq1, pq2, pq3, pq4, rfl, hq1, hq2⟩ := hp; exact ⟨_, ⟨pq1, pq2, pq3, pq4, rfl, hq1, hq2⟩, hw⟩
      obtain ⟨rfl, e66⟩ := hp64
      have e66 : (pf5 12).toInt + dp na6 v10 < 60 := e66
      have hw : pw D A s.heap H locs [wdP cs h r g tf ta pf5 na6 ma7 wa8 cf ca ef ea xf xa] := hw
      refine lv_aload_n S.x S.b d_Mpg_postfix_28 rfl (lv_at hl 1 rfl) ?_
      refine lv_bipush (v := 6) S.x S.b d_Mpg_postfix_29 (by decide) ?_
      refine lv_aload_n S.x S.b d_Mpg_postfix_31 rfl (lv_at hl 1 rfl) ?_
      refine px_get S k_Mpg hT hw 0 0 11 (v := .int (pf5 11)) rfl rfl rfl (by decide) m9_235 d_Mpg_postfix_32 ?_
      refine px_calli (pr := []) (px_runV (As := [.int 6, .int (pf5 11)]) (rest := []) S (c_mp_make l D cs h r g tf ta wa8 cf ca ef ea xf xa pf5 na6 ma7 6 (pf5 11)  (show 0 ≤ (pf5 13).toInt from by omega) (show (pf5 13).toInt < 2100 from by omega) _) hT (pr := []) (pcs := [wdP cs h r g tf ta pf5 na6 ma7 wa8 cf ca ef ea xf xa]) hw px_X.tt (px_recv hT hw 0 0 rfl rfl rfl) m11_209 m11_206 m11_208 ms_8_12 m1_21 q_Mpg_make ⟨show 0 + 1 ≤ (8 * lv + 16) from by omega, show 8 + (3 + 11) + 0 ≤ (220 * lv + 600) from by omega⟩ hl.1 rfl (Nat.le_of_ble_eq_true rfl) d_Mpg_postfix_35 ⟨Nat.le_of_ble_eq_true rfl, Nat.le_of_ble_eq_true rfl⟩) hw hA (fun v74 p73 H locs hp73 hw => ?_)
      obtain ⟨pf70, na71, ma72, rfl, e75, e76, e77, e78, e79, e80, e81, e82⟩ := hp73
      have e75 : v74.toInt = (pf5 13).toInt := e75
      have e76 : (pf70 13).toInt = (pf5 13).toInt + 1 := e76
      have e77 : (pf70 11).toInt = (pf5 11).toInt := e77
      have e78 : (pf70 12).toInt = (pf5 12).toInt := e78
      have e79 : (pf70 24).toInt = (pf5 24).toInt := e79
      have e80 : (pf70 25).toInt = (pf5 25).toInt := e80
      have e81 : (pf70 26).toInt = (pf5 26).toInt := e81
      have e82 : MkN na6 ma7 na71 ma72 v74 (6 : Int32) (pf5 11) := e82
      obtain ⟨qb831, qb832, qb833, qb834⟩ := tk_eq (ta := ta) (x := (pf70 11)) (y := (pf5 11)) (by omega)
      have hmk_v74 := e82
      have hfm_v74 := MkN.frb (b := v74.toInt) hmk_v74 (by omega) (by omega)
      have ht_v10 := ht_v10.kp (FrB.le hfm_v74 (by omega)) (by omega)
      have hn_ht_v10 := ht_v10.num
      have hdq_v10 := dp_fb (x := v10) hfm_v74 (by omega) (by omega)
      have hfb := hfb.tr hfm_v74 (by omega)
      have hnk_v74 := hmk_v74.nk (by decide) (by decide) (by omega)
      have hdn_v74 := dp_nk hmk_v74
      have hw : pw D A s.heap H locs [wdP cs h r g tf ta pf70 na71 ma72 wa8 cf ca ef ea xf xa] := hw
      have lv74 := Int32.le_toInt v74
      have uv74 := Int32.toInt_lt v74
      refine lv_istore_n (lv' := [(2, .int v74), (1, .int v10), (0, .ref h)]) S.x S.b d_Mpg_postfix_38 rfl hl (by decide) rfl (fun ls hl => ?_)
      refine lv_aload_n S.x S.b d_Mpg_postfix_39 rfl (lv_at hl 2 rfl) ?_
      refine px_get S k_Mpg hT hw 0 0 16 (v := .ref (r 16)) rfl rfl rfl (by decide) m10_0 d_Mpg_postfix_40 ?_
      refine lv_iload_n S.x S.b d_Mpg_postfix_43 rfl (lv_at hl 0 rfl) ?_
      refine lv_aload_n S.x S.b d_Mpg_postfix_44 rfl (lv_at hl 2 rfl) ?_
      refine px_get S k_Mpg hT hw 0 0 16 (v := .ref (r 16)) rfl rfl rfl (by decide) m10_0 d_Mpg_postfix_45 ?_
      refine lv_iload_n S.x S.b d_Mpg_postfix_48 rfl (lv_at hl 1 rfl) ?_
      refine px_iald S hT hw 0 12 (n := 2100) (f := (na71 16)) rfl gp_16 (x := v10) (vp_in_iff.mpr (by constructor <;> omega)) d_Mpg_postfix_49 ?_
      refine lv_topi (fun z84 ez84 => ?_)
      have lz84 := Int32.le_toInt z84
      have uz84 := Int32.toInt_lt z84
      refine px_iast S hT hw 0 12 (n := 2100) (f := (na71 16)) (x := v74) (y := z84) rfl gp_16 (vp_in_iff.mpr (by constructor <;> omega)) d_Mpg_postfix_50 (w' := wdP cs h r g tf ta pf70 (va_up na71 16 (upd (na71 16) v74.toNatClampNeg z84)) ma72 wa8 cf ca ef ea xf xa) (ps' := [wdP cs h r g tf ta pf70 (va_up na71 16 (upd (na71 16) v74.toNatClampNeg z84)) ma72 wa8 cf ca ef ea xf xa]) sp_16 rfl (fun H locs hw => ?_)
      refine lv_aload_n S.x S.b d_Mpg_postfix_51 rfl (lv_at hl 2 rfl) ?_
      refine px_get S k_Mpg hT hw 0 0 23 (v := .ref (r 23)) rfl rfl rfl (by decide) m10_11 d_Mpg_postfix_52 ?_
      refine lv_iload_n S.x S.b d_Mpg_postfix_55 rfl (lv_at hl 0 rfl) ?_
      refine lv_iconst (v := 1) S.x S.b d_Mpg_postfix_56 (by decide) ?_
      refine lv_aload_n S.x S.b d_Mpg_postfix_57 rfl (lv_at hl 2 rfl) ?_
      refine px_get S k_Mpg hT hw 0 0 23 (v := .ref (r 23)) rfl rfl rfl (by decide) m10_11 d_Mpg_postfix_58 ?_
      refine lv_iload_n S.x S.b d_Mpg_postfix_61 rfl (lv_at hl 1 rfl) ?_
      refine px_iald S hT hw 0 19 (n := 2100) (f := ((va_up na71 16 (upd (na71 16) v74.toNatClampNeg z84)) 23)) rfl gp_23 (x := v10) (vp_in_iff.mpr (by constructor <;> omega)) d_Mpg_postfix_62 ?_
      refine lv_topi (fun z85 ez85 => ?_)
      have lz85 := Int32.le_toInt z85
      have uz85 := Int32.toInt_lt z85
      have rz85 : z85.toInt = dp na71 v10 := by have q9 : z85.toInt = dp (va_up na71 16 (upd (na71 16) v74.toNatClampNeg z84)) v10 := (by rw [ez85]; rfl); rw [dp_un (by decide)] at q9; exact q9
      refine lv_iadd S.x S.b d_Mpg_postfix_63 ?_
      refine lv_topi (fun z86 ez86 => ?_)
      have tz86 : z86.toInt = ((1 : Int) + z85.toInt + 2147483648) % 4294967296 - 2147483648 := by rw [ez86]; exact i_add 1 z85
      have lz86 := Int32.le_toInt z86
      have uz86 := Int32.toInt_lt z86
      try replace tz86 : z86.toInt = (1 : Int) + z85.toInt := by omega
      refine px_iast S hT hw 0 19 (n := 2100) (f := ((va_up na71 16 (upd (na71 16) v74.toNatClampNeg z84)) 23)) (x := v74) (y := z86) rfl gp_23 (vp_in_iff.mpr (by constructor <;> omega)) d_Mpg_postfix_64 (w' := wdP cs h r g tf ta pf70 (va_up (va_up na71 16 (upd (na71 16) v74.toNatClampNeg z84)) 23 (upd ((va_up na71 16 (upd (na71 16) v74.toNatClampNeg z84)) 23) v74.toNatClampNeg z86)) ma72 wa8 cf ca ef ea xf xa) (ps' := [wdP cs h r g tf ta pf70 (va_up (va_up na71 16 (upd (na71 16) v74.toNatClampNeg z84)) 23 (upd ((va_up na71 16 (upd (na71 16) v74.toNatClampNeg z84)) 23) v74.toNatClampNeg z86)) ma72 wa8 cf ca ef ea xf xa]) sp_23 rfl (fun H locs hw => ?_)
      refine lv_aload_n S.x S.b d_Mpg_postfix_65 rfl (lv_at hl 2 rfl) ?_
      refine px_get S k_Mpg hT hw 0 0 17 (v := .ref (r 17)) rfl rfl rfl (by decide) m10_1 d_Mpg_postfix_66 ?_
      refine lv_iload_n S.x S.b d_Mpg_postfix_69 rfl (lv_at hl 0 rfl) ?_
      refine lv_iload_n S.x S.b d_Mpg_postfix_70 rfl (lv_at hl 1 rfl) ?_
      refine px_iast S hT hw 0 13 (n := 2100) (f := ((va_up (va_up na71 16 (upd (na71 16) v74.toNatClampNeg z84)) 23 (upd ((va_up na71 16 (upd (na71 16) v74.toNatClampNeg z84)) 23) v74.toNatClampNeg z86)) 17)) (x := v74) (y := v10) rfl gp_17 (vp_in_iff.mpr (by constructor <;> omega)) d_Mpg_postfix_71 (w' := wdP cs h r g tf ta pf70 (va_up (va_up (va_up na71 16 (upd (na71 16) v74.toNatClampNeg z84)) 23 (upd ((va_up na71 16 (upd (na71 16) v74.toNatClampNeg z84)) 23) v74.toNatClampNeg z86)) 17 (upd ((va_up (va_up na71 16 (upd (na71 16) v74.toNatClampNeg z84)) 23 (upd ((va_up na71 16 (upd (na71 16) v74.toNatClampNeg z84)) 23) v74.toNatClampNeg z86)) 17) v74.toNatClampNeg v10)) ma72 wa8 cf ca ef ea xf xa) (ps' := [wdP cs h r g tf ta pf70 (va_up (va_up (va_up na71 16 (upd (na71 16) v74.toNatClampNeg z84)) 23 (upd ((va_up na71 16 (upd (na71 16) v74.toNatClampNeg z84)) 23) v74.toNatClampNeg z86)) 17 (upd ((va_up (va_up na71 16 (upd (na71 16) v74.toNatClampNeg z84)) 23 (upd ((va_up na71 16 (upd (na71 16) v74.toNatClampNeg z84)) 23) v74.toNatClampNeg z86)) 17) v74.toNatClampNeg v10)) ma72 wa8 cf ca ef ea xf xa]) sp_17 rfl (fun H locs hw => ?_)
      refine lv_iload_n S.x S.b d_Mpg_postfix_72 rfl (lv_at hl 0 rfl) ?_
      refine lv_istore_n (lv' := [(1, .int v74), (2, .int v74), (0, .ref h)]) S.x S.b d_Mpg_postfix_73 rfl hl (by decide) rfl (fun ls hl => ?_)
      refine lv_aload_n S.x S.b d_Mpg_postfix_74 rfl (lv_at hl 2 rfl) ?_
      refine lv_dup S.x S.b d_Mpg_postfix_75 rfl ?_
      refine px_get S k_Mpg hT hw 0 0 11 (v := .int (pf70 11)) rfl rfl rfl (by decide) m9_235 d_Mpg_postfix_76 ?_
      refine lv_iconst (v := 1) S.x S.b d_Mpg_postfix_79 (by decide) ?_
      refine lv_iadd S.x S.b d_Mpg_postfix_80 ?_
      have lr87 := Int32.le_toInt (pf70 11)
      have ur87 := Int32.toInt_lt (pf70 11)
      refine lv_topi (fun z88 ez88 => ?_)
      have tz88 : z88.toInt = ((pf70 11).toInt + (1 : Int) + 2147483648) % 4294967296 - 2147483648 := by rw [ez88]; exact i_add (pf70 11) 1
      have lz88 := Int32.le_toInt z88
      have uz88 := Int32.toInt_lt z88
      try replace tz88 : z88.toInt = (pf70 11).toInt + (1 : Int) := by omega
      have hnx80 := tk_n htk (x := (pf70 11)) (y := z88) (by omega) (by omega) (by omega)
      refine px_put S k_Mpg hT hw 0 0 11 rfl rfl (by decide) m9_235 rfl rfl rfl (Nat.le_of_ble_eq_true rfl) d_Mpg_postfix_81 (w' := wdP cs h r g tf ta (upd pf70 11 z88) (va_up (va_up (va_up na71 16 (upd (na71 16) v74.toNatClampNeg z84)) 23 (upd ((va_up na71 16 (upd (na71 16) v74.toNatClampNeg z84)) 23) v74.toNatClampNeg z86)) 17 (upd ((va_up (va_up na71 16 (upd (na71 16) v74.toNatClampNeg z84)) 23 (upd ((va_up na71 16 (upd (na71 16) v74.toNatClampNeg z84)) 23) v74.toNatClampNeg z86)) 17) v74.toNatClampNeg v10)) ma72 wa8 cf ca ef ea xf xa) (ps' := [wdP cs h r g tf ta (upd pf70 11 z88) (va_up (va_up (va_up na71 16 (upd (na71 16) v74.toNatClampNeg z84)) 23 (upd ((va_up na71 16 (upd (na71 16) v74.toNatClampNeg z84)) 23) v74.toNatClampNeg z86)) 17 (upd ((va_up (va_up na71 16 (upd (na71 16) v74.toNatClampNeg z84)) 23 (upd ((va_up na71 16 (upd (na71 16) v74.toNatClampNeg z84)) 23) v74.toNatClampNeg z86)) 17) v74.toNatClampNeg v10)) ma72 wa8 cf ca ef ea xf xa]) rfl rfl (fun H locs hw => ?_)
      refine lv_iload_n S.x S.b d_Mpg_postfix_84 rfl (lv_at hl 0 rfl) ?_
      exact th_iret (v := v74) S hr rfl hlk hAe hw (⟨(upd pf70 11 z88), (va_up (va_up (va_up na71 16 (upd (na71 16) v74.toNatClampNeg z84)) 23 (upd ((va_up na71 16 (upd (na71 16) v74.toNatClampNeg z84)) 23) v74.toNatClampNeg z86)) 17 (upd ((va_up (va_up na71 16 (upd (na71 16) v74.toNatClampNeg z84)) 23 (upd ((va_up na71 16 (upd (na71 16) v74.toNatClampNeg z84)) 23) v74.toNatClampNeg z86)) 17) v74.toNatClampNeg v10)), ma72, wa8, rfl, (show (pf 11).toInt + 1 ≤ z88.toInt from by omega), (show z88.toInt < (tf 6).toInt from by omega), (show (pf 13).toInt + 1 ≤ (pf70 13).toInt from by omega), (show (pf70 13).toInt - (pf 13).toInt ≤ z88.toInt - (pf 11).toInt from by omega), (show bp ta (pf 11) + 1 ≤ bp ta z88 from by omega), (show (pf70 12).toInt = (pf 12).toInt from by omega), (show (pf70 24).toInt = (pf 24).toInt from by omega), (show (pf70 25).toInt = (pf 25).toInt from by omega), (show (pf70 26).toInt = (pf 26).toInt from by omega), (show FrB (pf 13).toInt na ma (va_up (va_up (va_up na71 16 (upd (na71 16) v74.toNatClampNeg z84)) 23 (upd ((va_up na71 16 (upd (na71 16) v74.toNatClampNeg z84)) 23) v74.toNatClampNeg z86)) 17 (upd ((va_up (va_up na71 16 (upd (na71 16) v74.toNatClampNeg z84)) 23 (upd ((va_up na71 16 (upd (na71 16) v74.toNatClampNeg z84)) 23) v74.toNatClampNeg z86)) 17) v74.toNatClampNeg v10)) ma72 from (FrB.un (FrB.un (FrB.un hfb (by omega) (by omega)) (by omega) (by omega)) (by omega) (by omega))), (show FrW (pf 26).toInt wa wa8 from hfw), (show ExR ta (tf 6).toInt (va_up (va_up (va_up na71 16 (upd (na71 16) v74.toNatClampNeg z84)) 23 (upd ((va_up na71 16 (upd (na71 16) v74.toNatClampNeg z84)) 23) v74.toNatClampNeg z86)) 17 (upd ((va_up (va_up na71 16 (upd (na71 16) v74.toNatClampNeg z84)) 23 (upd ((va_up na71 16 (upd (na71 16) v74.toNatClampNeg z84)) 23) v74.toNatClampNeg z86)) 17) v74.toNatClampNeg v10)) ma72 v74 (pf 13).toInt (pf70 13).toInt (3 * (bp ta z88 - bp ta (pf 11))) (pf 12).toInt from (ExR.le (exr_up ht_v10 (by omega) (fun x hx => ⟨fun j => by rw [up_far hx, up_far hx, up_far hx], fun _ => rfl⟩) (by omega) (Or.inr (by rw [va_up_n (by decide), va_up_n (by decide), va_up_n (by decide), hnk_v74.1]; rfl)) (ndt_of (by rw [va_up_n (by decide), va_up_n (by decide), va_up_n (by decide), hnk_v74.2.1]) (by omega) (by omega) (by omega)) (by rw [va_up_s, pk_us]) (fun h5 => absurd h5 (by rw [va_up_n (by decide), va_up_n (by decide), va_up_n (by decide), hnk_v74.1]; decide)) (by rw [dp_un (by decide), dp_us]; omega) (by rw [dp_un (by decide), dp_us]; omega) (by rw [dp_un (by decide), dp_us]; omega) ⟨(by rw [va_up_n (by decide), va_up_n (by decide), va_up_n (by decide), hnk_v74.2.2.1]; decide), (by rw [hnk_v74.2.2.2.2]; decide)⟩) (by omega) (by omega) (by omega) (Int.le_refl _)))⟩) d_Mpg_postfix_85
abbrev b_Mpg_unary : ByteArray := prog_16_method_38_code
def y_Mpg_unary : MethodName := ⟨"HomeSystemModel$Program", "unary", "()I"⟩
theorem d_Mpg_unary_0 : decode b_Mpg_unary 0 = .ok (.aload_n 0, 1) := by decide +kernel
theorem d_Mpg_unary_1 : decode b_Mpg_unary 1 = .ok (.getfield 360, 3) := by decide +kernel
theorem d_Mpg_unary_4 : decode b_Mpg_unary 4 = .ok (.istore_n 1, 1) := by decide +kernel
theorem d_Mpg_unary_5 : decode b_Mpg_unary 5 = .ok (.iconst 0, 1) := by decide +kernel
theorem d_Mpg_unary_6 : decode b_Mpg_unary 6 = .ok (.istore_n 2, 1) := by decide +kernel
theorem d_Mpg_unary_7 : decode b_Mpg_unary 7 = .ok (.aload_n 0, 1) := by decide +kernel
theorem d_Mpg_unary_8 : decode b_Mpg_unary 8 = .ok (.invokevirtual 430, 3) := by decide +kernel
theorem d_Mpg_unary_11 : decode b_Mpg_unary 11 = .ok (.ifCond .eq 13, 3) := by decide +kernel
theorem d_Mpg_unary_14 : decode b_Mpg_unary 14 = .ok (.aload_n 0, 1) := by decide +kernel
theorem d_Mpg_unary_15 : decode b_Mpg_unary 15 = .ok (.invokevirtual 383, 3) := by decide +kernel
theorem d_Mpg_unary_18 : decode b_Mpg_unary 18 = .ok (.iinc 2 1, 3) := by decide +kernel
theorem d_Mpg_unary_21 : decode b_Mpg_unary 21 = .ok (.goto (-14), 3) := by decide +kernel
theorem d_Mpg_unary_24 : decode b_Mpg_unary 24 = .ok (.aload_n 0, 1) := by decide +kernel
theorem d_Mpg_unary_25 : decode b_Mpg_unary 25 = .ok (.invokevirtual 433, 3) := by decide +kernel
theorem d_Mpg_unary_28 : decode b_Mpg_unary 28 = .ok (.istore_n 3, 1) := by decide +kernel
theorem d_Mpg_unary_29 : decode b_Mpg_unary 29 = .ok (.iload_n 1, 1) := by decide +kernel
theorem d_Mpg_unary_30 : decode b_Mpg_unary 30 = .ok (.iload_n 2, 1) := by decide +kernel
theorem d_Mpg_unary_31 : decode b_Mpg_unary 31 = .ok (.iadd, 1) := by decide +kernel
theorem d_Mpg_unary_32 : decode b_Mpg_unary 32 = .ok (.iconst 1, 1) := by decide +kernel
theorem d_Mpg_unary_33 : decode b_Mpg_unary 33 = .ok (.isub, 1) := by decide +kernel
theorem d_Mpg_unary_34 : decode b_Mpg_unary 34 = .ok (.istore 4, 2) := by decide +kernel
theorem d_Mpg_unary_36 : decode b_Mpg_unary 36 = .ok (.iload 4, 2) := by decide +kernel
theorem d_Mpg_unary_38 : decode b_Mpg_unary 38 = .ok (.iload_n 1, 1) := by decide +kernel
theorem d_Mpg_unary_39 : decode b_Mpg_unary 39 = .ok (.if_icmp .lt 62, 3) := by decide +kernel
theorem d_Mpg_unary_42 : decode b_Mpg_unary 42 = .ok (.aload_n 0, 1) := by decide +kernel
theorem d_Mpg_unary_43 : decode b_Mpg_unary 43 = .ok (.iconst 5, 1) := by decide +kernel
theorem d_Mpg_unary_44 : decode b_Mpg_unary 44 = .ok (.iload 4, 2) := by decide +kernel
theorem d_Mpg_unary_46 : decode b_Mpg_unary 46 = .ok (.invokevirtual 406, 3) := by decide +kernel
theorem d_Mpg_unary_49 : decode b_Mpg_unary 49 = .ok (.istore 5, 2) := by decide +kernel
theorem d_Mpg_unary_51 : decode b_Mpg_unary 51 = .ok (.aload_n 0, 1) := by decide +kernel
theorem d_Mpg_unary_52 : decode b_Mpg_unary 52 = .ok (.getfield 234, 3) := by decide +kernel
theorem d_Mpg_unary_55 : decode b_Mpg_unary 55 = .ok (.iload 5, 2) := by decide +kernel
theorem d_Mpg_unary_57 : decode b_Mpg_unary 57 = .ok (.aload_n 0, 1) := by decide +kernel
theorem d_Mpg_unary_58 : decode b_Mpg_unary 58 = .ok (.iload 4, 2) := by decide +kernel
theorem d_Mpg_unary_60 : decode b_Mpg_unary 60 = .ok (.invokevirtual 418, 3) := by decide +kernel
theorem d_Mpg_unary_63 : decode b_Mpg_unary 63 = .ok (.ifCond .eq 12, 3) := by decide +kernel
theorem d_Mpg_unary_66 : decode b_Mpg_unary 66 = .ok (.aload_n 0, 1) := by decide +kernel
theorem d_Mpg_unary_67 : decode b_Mpg_unary 67 = .ok (.getfield 234, 3) := by decide +kernel
theorem d_Mpg_unary_70 : decode b_Mpg_unary 70 = .ok (.iload_n 3, 1) := by decide +kernel
theorem d_Mpg_unary_71 : decode b_Mpg_unary 71 = .ok (.iaload, 1) := by decide +kernel
theorem d_Mpg_unary_72 : decode b_Mpg_unary 72 = .ok (.goto 11, 3) := by decide +kernel
theorem d_Mpg_unary_75 : decode b_Mpg_unary 75 = .ok (.iconst 1, 1) := by decide +kernel
theorem d_Mpg_unary_76 : decode b_Mpg_unary 76 = .ok (.aload_n 0, 1) := by decide +kernel
theorem d_Mpg_unary_77 : decode b_Mpg_unary 77 = .ok (.getfield 234, 3) := by decide +kernel
theorem d_Mpg_unary_80 : decode b_Mpg_unary 80 = .ok (.iload_n 3, 1) := by decide +kernel
theorem d_Mpg_unary_81 : decode b_Mpg_unary 81 = .ok (.iaload, 1) := by decide +kernel
theorem d_Mpg_unary_82 : decode b_Mpg_unary 82 = .ok (.iadd, 1) := by decide +kernel
theorem d_Mpg_unary_83 : decode b_Mpg_unary 83 = .ok (.iastore, 1) := by decide +kernel
theorem d_Mpg_unary_84 : decode b_Mpg_unary 84 = .ok (.aload_n 0, 1) := by decide +kernel
theorem d_Mpg_unary_85 : decode b_Mpg_unary 85 = .ok (.getfield 216, 3) := by decide +kernel
theorem d_Mpg_unary_88 : decode b_Mpg_unary 88 = .ok (.iload 5, 2) := by decide +kernel
theorem d_Mpg_unary_90 : decode b_Mpg_unary 90 = .ok (.iload_n 3, 1) := by decide +kernel
theorem d_Mpg_unary_91 : decode b_Mpg_unary 91 = .ok (.iastore, 1) := by decide +kernel
theorem d_Mpg_unary_92 : decode b_Mpg_unary 92 = .ok (.iload 5, 2) := by decide +kernel
theorem d_Mpg_unary_94 : decode b_Mpg_unary 94 = .ok (.istore_n 3, 1) := by decide +kernel
theorem d_Mpg_unary_95 : decode b_Mpg_unary 95 = .ok (.iinc 4 (-1), 3) := by decide +kernel
theorem d_Mpg_unary_98 : decode b_Mpg_unary 98 = .ok (.goto (-62), 3) := by decide +kernel
theorem d_Mpg_unary_101 : decode b_Mpg_unary 101 = .ok (.aload_n 0, 1) := by decide +kernel
theorem d_Mpg_unary_102 : decode b_Mpg_unary 102 = .ok (.aload_n 0, 1) := by decide +kernel
theorem d_Mpg_unary_103 : decode b_Mpg_unary 103 = .ok (.getfield 380, 3) := by decide +kernel
theorem d_Mpg_unary_106 : decode b_Mpg_unary 106 = .ok (.iload_n 2, 1) := by decide +kernel
theorem d_Mpg_unary_107 : decode b_Mpg_unary 107 = .ok (.isub, 1) := by decide +kernel
theorem d_Mpg_unary_108 : decode b_Mpg_unary 108 = .ok (.putfield 380, 3) := by decide +kernel
theorem d_Mpg_unary_111 : decode b_Mpg_unary 111 = .ok (.iload_n 3, 1) := by decide +kernel
theorem d_Mpg_unary_112 : decode b_Mpg_unary 112 = .ok (.ireturn, 1) := by decide +kernel
theorem q_Mpg_unary : px_y y_Mpg_unary 0 := by unfold px_y; decide +kernel
set_option maxHeartbeats 4000000 in
set_option maxRecDepth 100000 in
theorem c_mp_unary (l : Launch) (D : va_G) (cs : Nat → ClassId) (h : Nat) (r : Nat → Nat) (g : Nat → Nat → Option Nat) (tf : Nat → Int32) (ta : Nat → Nat → Int32) (cf : Nat → Int32) (ca : Nat → Nat → Int32) (ef : Nat → Int32) (ea : Nat → Nat → Int32) (xf : Nat → Int32) (xa : Nat → Nat → Int32) (pf : Nat → Int32) (na : Nat → Nat → Int32) (ma : Nat → Nat → Int32) (wa : Nat → Nat → Int32) (lv : Nat) (g0 : 0 ≤ (pf 11).toInt) (g1 : (pf 11).toInt < (tf 6).toInt) (g2 : (tf 6).toInt ≤ 2049) (g3 : 0 ≤ (pf 12).toInt) (g4 : (pf 12).toInt ≤ 60) (g5 : 0 ≤ (pf 13).toInt) (g6 : (pf 13).toInt ≤ (pf 11).toInt + 20) (g7 : 0 ≤ (pf 26).toInt) (g8 : (pf 26).toInt ≤ (pf 12).toInt) (g9 : 61 ≤ (pf 12).toInt + (lv : Int)) (g10 : lv ≤ 61) (hlf : l.flags = pinnedFlags ++ [noTraceFlag]) (htk : TkI tf ta) (hE : LvE l D cs lv) : ThI l y_Mpg_unary b_Mpg_unary 6 (.int) D cs (8 * lv + 17) (220 * lv + 630) [.ref h] [wdP cs h r g tf ta pf na ma wa cf ca ef ea xf xa] (oX (fun A U H => (oN A U H) ∧ (oP A g U H)) [wdP cs h r g tf ta pf na ma wa cf ca ef ea xf xa]) "java/lang/IllegalArgumentException" (fun v ps => ∃ (pf' : Nat → Int32) (na' : Nat → Nat → Int32) (ma' : Nat → Nat → Int32) (wa' : Nat → Nat → Int32), (ps = [wdP cs h r g tf ta pf' na' ma' wa' cf ca ef ea xf xa]) ∧ ((pf 11).toInt + 1 ≤ (pf' 11).toInt) ∧ ((pf' 11).toInt < (tf 6).toInt) ∧ ((pf 13).toInt + 1 ≤ (pf' 13).toInt) ∧ ((pf' 13).toInt - (pf 13).toInt ≤ (pf' 11).toInt - (pf 11).toInt) ∧ (bp ta (pf 11) + 1 ≤ bp ta (pf' 11)) ∧ ((pf' 12).toInt = (pf 12).toInt) ∧ ((pf' 24).toInt = (pf 24).toInt) ∧ ((pf' 25).toInt = (pf 25).toInt) ∧ ((pf' 26).toInt = (pf 26).toInt) ∧ (FrB (pf 13).toInt na ma na' ma') ∧ (FrW (pf 26).toInt wa wa') ∧ (ExR ta (tf 6).toInt na' ma' v (pf 13).toInt (pf' 13).toInt (3 * (bp ta (pf' 11) - bp ta (pf 11))) (pf 12).toInt)) (fun ps => ∃ (pf' : Nat → Int32) (na' : Nat → Nat → Int32) (ma' : Nat → Nat → Int32) (wa' : Nat → Nat → Int32), ps = [wdP cs h r g tf ta pf' na' ma' wa' cf ca ef ea xf xa] ∧ 0 ≤ (pf' 11).toInt ∧ (pf' 11).toInt + 1 ≤ (tf 6).toInt) := by
  refine th_enter (by decide) (Nat.le_of_ble_eq_true rfl) ?_
  intro p e s m below meth c A ls hAe S hr hlk hnm hA hT hX hw hl hne hadm
  have hl : lv_has ls 6 [(0, .ref h)] := hl
  have cst0 : (0 : Int32).toInt = 0 := rfl
  have cst1 : (1 : Int32).toInt = 1 := rfl
  have cst5 : (5 : Int32).toInt = 5 := rfl
  have hX : (fun A U H => (oN A U H) ∧ (oP A g U H)) A s s.heap := by rw [hAe]; exact hX
  obtain ⟨hN, hP⟩ := hX
  have hZ := hP.1
  have hF0 := hP.2.1
  have hfb : FrB (pf 13).toInt na ma na ma := FrB.rf
  have hfw : FrW (pf 26).toInt wa wa := FrW.rf
  have J36 : ∀ (n_36 : Nat) (pf_36 : Nat → Int32) (na_36 : Nat → Nat → Int32) (ma_36 : Nat → Nat → Int32) (wa_36 : Nat → Nat → Int32) (x36_1 x36_2 x36_3 x36_4 : Int32) (H : Heap) (locs : List Loc) (ls : Array Slot), ((pf_36 24).toInt = (pf 24).toInt) → ((pf_36 25).toInt = (pf 25).toInt) → ((pf_36 26).toInt = (pf 26).toInt) → (x36_1.toInt = (pf 11).toInt) → (0 ≤ x36_2.toInt) → (x36_2.toInt ≤ 60) → ((pf_36 12).toInt = (pf 12).toInt + x36_2.toInt) → (x36_1.toInt - 1 ≤ x36_4.toInt) → (x36_4.toInt < x36_1.toInt + x36_2.toInt) → ((pf 11).toInt + 1 ≤ (pf_36 11).toInt) → ((pf_36 11).toInt < (tf 6).toInt) → ((pf 11).toInt + x36_2.toInt < (tf 6).toInt) → ((pf 13).toInt + 1 ≤ (pf_36 13).toInt) → ((pf_36 13).toInt - (pf 13).toInt ≤ (pf_36 11).toInt - (pf 11).toInt - (x36_4.toInt + 1 - x36_1.toInt)) → (bp ta (pf 11) + 1 ≤ bp ta (pf_36 11)) → (FrB (pf 13).toInt na ma na_36 ma_36) → (FrW (pf 26).toInt wa wa_36) → (Mks ta (pf 11).toInt ((pf 11).toInt + x36_2.toInt)) → (ExR ta (tf 6).toInt na_36 ma_36 x36_3 (pf 13).toInt (pf_36 13).toInt (3 * (bp ta (pf_36 11) - bp ta (pf 11)) - 3 * (x36_4.toInt + 1 - x36_1.toInt)) ((pf 12).toInt + (x36_4.toInt + 1 - x36_1.toInt))) → x36_4.toInt - x36_1.toInt + 1 < (n_36 : Int) → pw D A s.heap H locs [wdP cs h r g tf ta pf_36 na_36 ma_36 wa_36 cf ca ef ea xf xa] → lv_has ls 6 [(0, .ref h), (1, .int x36_1), (2, .int x36_2), (3, .int x36_3), (4, .int x36_4)] → W p l e { frames := (8 * lv + 17), cells := 1, slots := 6, locals := (220 * lv + 630) } s m [.ref h].toArray below meth c H locs 0 0 (tx_MQ below (thQi D (va_A ([wdP cs h r g tf ta pf na ma wa cf ca ef ea xf xa] : List va_W).flatten s.heap.size) "java/lang/IllegalArgumentException" (fun v ps => ∃ (pf' : Nat → Int32) (na' : Nat → Nat → Int32) (ma' : Nat → Nat → Int32) (wa' : Nat → Nat → Int32), (ps = [wdP cs h r g tf ta pf' na' ma' wa' cf ca ef ea xf xa]) ∧ ((pf 11).toInt + 1 ≤ (pf' 11).toInt) ∧ ((pf' 11).toInt < (tf 6).toInt) ∧ ((pf 13).toInt + 1 ≤ (pf' 13).toInt) ∧ ((pf' 13).toInt - (pf 13).toInt ≤ (pf' 11).toInt - (pf 11).toInt) ∧ (bp ta (pf 11) + 1 ≤ bp ta (pf' 11)) ∧ ((pf' 12).toInt = (pf 12).toInt) ∧ ((pf' 24).toInt = (pf 24).toInt) ∧ ((pf' 25).toInt = (pf 25).toInt) ∧ ((pf' 26).toInt = (pf 26).toInt) ∧ (FrB (pf 13).toInt na ma na' ma') ∧ (FrW (pf 26).toInt wa wa') ∧ (ExR ta (tf 6).toInt na' ma' v (pf 13).toInt (pf' 13).toInt (3 * (bp ta (pf' 11) - bp ta (pf 11))) (pf 12).toInt)) (fun ps => ∃ (pf' : Nat → Int32) (na' : Nat → Nat → Int32) (ma' : Nat → Nat → Int32) (wa' : Nat → Nat → Int32), ps = [wdP cs h r g tf ta pf' na' ma' wa' cf ca ef ea xf xa] ∧ 0 ≤ (pf' 11).toInt ∧ (pf' 11).toInt + 1 ≤ (tf 6).toInt) s.heap.size (tot s.heap)) [.ref h].toArray s 1 6 A) (F0 m 36 ls []) := by
    intro  n_36
    induction n_36 with
    | zero =>
      intro pf_36 na_36 ma_36 wa_36 x36_1 x36_2 x36_3 x36_4 H locs ls k36_0 k36_1 k36_2 k36_3 k36_4 k36_5 k36_6 k36_7 k36_8 k36_9 k36_10 k36_11 k36_12 k36_13 k36_14 k36_15 k36_16 k36_17 k36_18 hm hw hl
      have lx36_1 := Int32.le_toInt x36_1
      have ux36_1 := Int32.toInt_lt x36_1
      have lx36_2 := Int32.le_toInt x36_2
      have ux36_2 := Int32.toInt_lt x36_2
      have lx36_3 := Int32.le_toInt x36_3
      have ux36_3 := Int32.toInt_lt x36_3
      have lx36_4 := Int32.le_toInt x36_4
      have ux36_4 := Int32.toInt_lt x36_4
      have hfb := k36_15
      have hfw := k36_16
      have hmks := k36_17
      have ht_x36_3 := k36_18
      have hn_ht_x36_3 := ht_x36_3.num
      exact absurd hm (by omega)
    | succ n_36 ih36 =>
      intro pf_36 na_36 ma_36 wa_36 x36_1 x36_2 x36_3 x36_4 H locs ls k36_0 k36_1 k36_2 k36_3 k36_4 k36_5 k36_6 k36_7 k36_8 k36_9 k36_10 k36_11 k36_12 k36_13 k36_14 k36_15 k36_16 k36_17 k36_18 hm hw hl
      have lx36_1 := Int32.le_toInt x36_1
      have ux36_1 := Int32.toInt_lt x36_1
      have lx36_2 := Int32.le_toInt x36_2
      have ux36_2 := Int32.toInt_lt x36_2
      have lx36_3 := Int32.le_toInt x36_3
      have ux36_3 := Int32.toInt_lt x36_3
      have lx36_4 := Int32.le_toInt x36_4
      have ux36_4 := Int32.toInt_lt x36_4
      have hfb := k36_15
      have hfw := k36_16
      have hmks := k36_17
      have ht_x36_3 := k36_18
      have hn_ht_x36_3 := ht_x36_3.num
      refine lv_iload S.x S.b d_Mpg_unary_36 (lv_at hl 4 rfl) ?_
      refine lv_iload_n S.x S.b d_Mpg_unary_38 rfl (lv_at hl 1 rfl) ?_
      refine lv_icmp_lt (tgt := 101) S.x S.b d_Mpg_unary_39 (by decide) (fun c1 => ?_) (fun c1 => ?_)
      · have nc1 : x36_4.toInt < x36_1.toInt := (i_lt (x := x36_4) (y := x36_1)).mp c1
        refine lv_aload_n S.x S.b d_Mpg_unary_101 rfl (lv_at hl 0 rfl) ?_
        refine lv_aload_n S.x S.b d_Mpg_unary_102 rfl (lv_at hl 0 rfl) ?_
        refine px_get S k_Mpg hT hw 0 0 12 (v := .int (pf_36 12)) rfl rfl rfl (by decide) m9_236 d_Mpg_unary_103 ?_
        refine lv_iload_n S.x S.b d_Mpg_unary_106 rfl (lv_at hl 2 rfl) ?_
        refine lv_isub S.x S.b d_Mpg_unary_107 ?_
        have lr2 := Int32.le_toInt (pf_36 12)
        have ur2 := Int32.toInt_lt (pf_36 12)
        refine lv_topi (fun z3 ez3 => ?_)
        have tz3 : z3.toInt = ((pf_36 12).toInt - x36_2.toInt + 2147483648) % 4294967296 - 2147483648 := by rw [ez3]; exact i_sub (pf_36 12) x36_2
        have lz3 := Int32.le_toInt z3
        have uz3 := Int32.toInt_lt z3
        try replace tz3 : z3.toInt = (pf_36 12).toInt - x36_2.toInt := by omega
        refine px_put S k_Mpg hT hw 0 0 12 rfl rfl (by decide) m9_236 rfl rfl rfl (Nat.le_of_ble_eq_true rfl) d_Mpg_unary_108 (w' := wdP cs h r g tf ta (upd pf_36 12 z3) na_36 ma_36 wa_36 cf ca ef ea xf xa) (ps' := [wdP cs h r g tf ta (upd pf_36 12 z3) na_36 ma_36 wa_36 cf ca ef ea xf xa]) rfl rfl (fun H locs hw => ?_)
        refine lv_iload_n S.x S.b d_Mpg_unary_111 rfl (lv_at hl 3 rfl) ?_
        exact th_iret (v := x36_3) S hr rfl hlk hAe hw (⟨(upd pf_36 12 z3), na_36, ma_36, wa_36, rfl, (show (pf 11).toInt + 1 ≤ (pf_36 11).toInt from by omega), (show (pf_36 11).toInt < (tf 6).toInt from by omega), (show (pf 13).toInt + 1 ≤ (pf_36 13).toInt from by omega), (show (pf_36 13).toInt - (pf 13).toInt ≤ (pf_36 11).toInt - (pf 11).toInt from by omega), (show bp ta (pf 11) + 1 ≤ bp ta (pf_36 11) from by omega), (show z3.toInt = (pf 12).toInt from by omega), (show (pf_36 24).toInt = (pf 24).toInt from by omega), (show (pf_36 25).toInt = (pf 25).toInt from by omega), (show (pf_36 26).toInt = (pf 26).toInt from by omega), (show FrB (pf 13).toInt na ma na_36 ma_36 from hfb), (show FrW (pf 26).toInt wa wa_36 from hfw), (show ExR ta (tf 6).toInt na_36 ma_36 x36_3 (pf 13).toInt (pf_36 13).toInt (3 * (bp ta (pf_36 11) - bp ta (pf 11))) (pf 12).toInt from (ExR.le ht_x36_3 (by omega) (by omega) (by omega) (by omega)))⟩) d_Mpg_unary_112
      · have nc1 : ¬ x36_4.toInt < x36_1.toInt := mt (i_lt (x := x36_4) (y := x36_1)).mpr c1
        refine lv_aload_n S.x S.b d_Mpg_unary_42 rfl (lv_at hl 0 rfl) ?_
        have hso5 := hmks x36_4 (by omega) (by omega)
        refine lv_iconst (v := 5) S.x S.b d_Mpg_unary_43 (by decide) ?_
        refine lv_iload S.x S.b d_Mpg_unary_44 (lv_at hl 4 rfl) ?_
        refine px_calli (pr := []) (px_runV (As := [.int 5, .int x36_4]) (rest := []) S (c_mp_make l D cs h r g tf ta wa_36 cf ca ef ea xf xa pf_36 na_36 ma_36 5 x36_4  (show 0 ≤ (pf_36 13).toInt from by omega) (show (pf_36 13).toInt < 2100 from by omega) _) hT (pr := []) (pcs := [wdP cs h r g tf ta pf_36 na_36 ma_36 wa_36 cf ca ef ea xf xa]) hw px_X.tt (px_recv hT hw 0 0 rfl rfl rfl) m11_209 m11_206 m11_208 ms_8_12 m1_21 q_Mpg_make ⟨show 0 + 1 ≤ (8 * lv + 17) from by omega, show 8 + (3 + 11) + 0 ≤ (220 * lv + 630) from by omega⟩ hl.1 rfl (Nat.le_of_ble_eq_true rfl) d_Mpg_unary_46 ⟨Nat.le_of_ble_eq_true rfl, Nat.le_of_ble_eq_true rfl⟩) hw hA (fun v11 p10 H locs hp10 hw => ?_)
        obtain ⟨pf7, na8, ma9, rfl, e12, e13, e14, e15, e16, e17, e18, e19⟩ := hp10
        have e12 : v11.toInt = (pf_36 13).toInt := e12
        have e13 : (pf7 13).toInt = (pf_36 13).toInt + 1 := e13
        have e14 : (pf7 11).toInt = (pf_36 11).toInt := e14
        have e15 : (pf7 12).toInt = (pf_36 12).toInt := e15
        have e16 : (pf7 24).toInt = (pf_36 24).toInt := e16
        have e17 : (pf7 25).toInt = (pf_36 25).toInt := e17
        have e18 : (pf7 26).toInt = (pf_36 26).toInt := e18
        have e19 : MkN na_36 ma_36 na8 ma9 v11 (5 : Int32) x36_4 := e19
        obtain ⟨qb201, qb202, qb203, qb204⟩ := tk_eq (ta := ta) (x := (pf7 11)) (y := (pf_36 11)) (by omega)
        have hmk_v11 := e19
        have hfm_v11 := MkN.frb (b := v11.toInt) hmk_v11 (by omega) (by omega)
        have ht_x36_3 := ht_x36_3.kp (FrB.le hfm_v11 (by omega)) (by omega)
        have hn_ht_x36_3 := ht_x36_3.num
        have hdq_x36_3 := dp_fb (x := x36_3) hfm_v11 (by omega) (by omega)
        have hfb := hfb.tr hfm_v11 (by omega)
        have hnk_v11 := hmk_v11.nk (by decide) (by decide) (by omega)
        have hdn_v11 := dp_nk hmk_v11
        have hw : pw D A s.heap H locs [wdP cs h r g tf ta pf7 na8 ma9 wa_36 cf ca ef ea xf xa] := hw
        have lv11 := Int32.le_toInt v11
        have uv11 := Int32.toInt_lt v11
        refine lv_istore (lv' := [(5, .int v11), (0, .ref h), (1, .int x36_1), (2, .int x36_2), (3, .int x36_3), (4, .int x36_4)]) S.x S.b d_Mpg_unary_49 hl (by decide) rfl (fun ls hl => ?_)
        refine lv_aload_n S.x S.b d_Mpg_unary_51 rfl (lv_at hl 1 rfl) ?_
        refine px_get S k_Mpg hT hw 0 0 23 (v := .ref (r 23)) rfl rfl rfl (by decide) m10_11 d_Mpg_unary_52 ?_
        refine lv_iload S.x S.b d_Mpg_unary_55 (lv_at hl 0 rfl) ?_
        refine lv_aload_n S.x S.b d_Mpg_unary_57 rfl (lv_at hl 1 rfl) ?_
        refine lv_iload S.x S.b d_Mpg_unary_58 (lv_at hl 5 rfl) ?_
        refine px_calli (pr := []) (px_runV (As := [.int x36_4]) (rest := [.int v11, .ref (r 23)]) S (c_mp_isNothing l D cs h r g tf ta pf7 na8 ma9 wa_36 cf ca ef ea xf xa x36_4  (show 0 ≤ x36_4.toInt from by omega) (show x36_4.toInt < (tf 6).toInt from by omega) (show (tf 6).toInt ≤ 2049 from by omega) htk _) hT (pr := []) (pcs := [wdP cs h r g tf ta pf7 na8 ma9 wa_36 cf ca ef ea xf xa]) hw px_X.tt (px_recv hT hw 0 0 rfl rfl rfl) m12_65 m12_62 m12_64 ms_10_1 m1_21 q_Mpg_isNothing ⟨show 0 + 1 ≤ (8 * lv + 17) from by omega, show 8 + (2 + 11) + 0 ≤ (220 * lv + 630) from by omega⟩ hl.1 rfl (Nat.le_of_ble_eq_true rfl) d_Mpg_unary_60 ⟨Nat.le_of_ble_eq_true rfl, Nat.le_of_ble_eq_true rfl⟩) hw hA (fun v22 p21 H locs hp21 hw => ?_)
        obtain ⟨rfl, e23, e24⟩ := hp21
        have e23 := z_rng e23
        have e24 : PlV ta x36_4 v22.toInt := e24
        have hplv := e24
        have hw : pw D A s.heap H locs [wdP cs h r g tf ta pf7 na8 ma9 wa_36 cf ca ef ea xf xa] := hw
        have lv22 := Int32.le_toInt v22
        have uv22 := Int32.toInt_lt v22
        refine lv_if_eq (tgt := 75) S.x S.b d_Mpg_unary_63 (by decide) (fun c25 => ?_) (fun c25 => ?_)
        · have nc25 : v22.toInt = (0 : Int) := (i_eq (x := v22) (y := 0)).mp c25
          refine lv_iconst (v := 1) S.x S.b d_Mpg_unary_75 (by decide) ?_
          refine lv_aload_n S.x S.b d_Mpg_unary_76 rfl (lv_at hl 1 rfl) ?_
          refine px_get S k_Mpg hT hw 0 0 23 (v := .ref (r 23)) rfl rfl rfl (by decide) m10_11 d_Mpg_unary_77 ?_
          refine lv_iload_n S.x S.b d_Mpg_unary_80 rfl (lv_at hl 4 rfl) ?_
          refine px_iald S hT hw 0 19 (n := 2100) (f := (na8 23)) rfl gp_23 (x := x36_3) (vp_in_iff.mpr (by constructor <;> omega)) d_Mpg_unary_81 ?_
          refine lv_topi (fun z26 ez26 => ?_)
          have lz26 := Int32.le_toInt z26
          have uz26 := Int32.toInt_lt z26
          have rz26 : z26.toInt = dp na8 x36_3 := by rw [ez26]; rfl
          refine lv_iadd S.x S.b d_Mpg_unary_82 ?_
          refine lv_topi (fun z27 ez27 => ?_)
          have tz27 : z27.toInt = ((1 : Int) + z26.toInt + 2147483648) % 4294967296 - 2147483648 := by rw [ez27]; exact i_add 1 z26
          have lz27 := Int32.le_toInt z27
          have uz27 := Int32.toInt_lt z27
          try replace tz27 : z27.toInt = (1 : Int) + z26.toInt := by omega
          refine px_iast S hT hw 0 19 (n := 2100) (f := (na8 23)) (x := v11) (y := z27) rfl gp_23 (vp_in_iff.mpr (by constructor <;> omega)) d_Mpg_unary_83 (w' := wdP cs h r g tf ta pf7 (va_up na8 23 (upd (na8 23) v11.toNatClampNeg z27)) ma9 wa_36 cf ca ef ea xf xa) (ps' := [wdP cs h r g tf ta pf7 (va_up na8 23 (upd (na8 23) v11.toNatClampNeg z27)) ma9 wa_36 cf ca ef ea xf xa]) sp_23 rfl (fun H locs hw => ?_)
          refine lv_aload_n S.x S.b d_Mpg_unary_84 rfl (lv_at hl 1 rfl) ?_
          refine px_get S k_Mpg hT hw 0 0 17 (v := .ref (r 17)) rfl rfl rfl (by decide) m10_1 d_Mpg_unary_85 ?_
          refine lv_iload S.x S.b d_Mpg_unary_88 (lv_at hl 0 rfl) ?_
          refine lv_iload_n S.x S.b d_Mpg_unary_90 rfl (lv_at hl 4 rfl) ?_
          refine px_iast S hT hw 0 13 (n := 2100) (f := ((va_up na8 23 (upd (na8 23) v11.toNatClampNeg z27)) 17)) (x := v11) (y := x36_3) rfl gp_17 (vp_in_iff.mpr (by constructor <;> omega)) d_Mpg_unary_91 (w' := wdP cs h r g tf ta pf7 (va_up (va_up na8 23 (upd (na8 23) v11.toNatClampNeg z27)) 17 (upd ((va_up na8 23 (upd (na8 23) v11.toNatClampNeg z27)) 17) v11.toNatClampNeg x36_3)) ma9 wa_36 cf ca ef ea xf xa) (ps' := [wdP cs h r g tf ta pf7 (va_up (va_up na8 23 (upd (na8 23) v11.toNatClampNeg z27)) 17 (upd ((va_up na8 23 (upd (na8 23) v11.toNatClampNeg z27)) 17) v11.toNatClampNeg x36_3)) ma9 wa_36 cf ca ef ea xf xa]) sp_17 rfl (fun H locs hw => ?_)
          refine lv_iload S.x S.b d_Mpg_unary_92 (lv_at hl 0 rfl) ?_
          refine lv_istore_n (lv' := [(3, .int v11), (5, .int v11), (0, .ref h), (1, .int x36_1), (2, .int x36_2), (4, .int x36_4)]) S.x S.b d_Mpg_unary_94 rfl hl (by decide) rfl (fun ls hl => ?_)
          obtain ⟨z28, ez28⟩ : ∃ y : Int32, y = x36_4 + (-1) := ⟨_, rfl⟩
          have tz28 : z28.toInt = (x36_4.toInt + (-1) + 2147483648) % 4294967296 - 2147483648 := by rw [ez28]; exact i_add x36_4 (-1)
          have lz28 := Int32.le_toInt z28
          have uz28 := Int32.toInt_lt z28
          try replace tz28 : z28.toInt = x36_4.toInt + (-1) := by omega
          refine lv_iinc (v := z28) (lv' := [(4, .int z28), (3, .int v11), (5, .int v11), (0, .ref h), (1, .int x36_1), (2, .int x36_2)]) S.x S.b d_Mpg_unary_95 hl (k := 5) rfl (by rw [ez28]; rfl) (by decide) rfl (fun ls hl => ?_)
          refine lv_goto (tgt := 36) S.x S.b d_Mpg_unary_98 (by decide) ?_
          exact ih36 pf7 (va_up (va_up na8 23 (upd (na8 23) v11.toNatClampNeg z27)) 17 (upd ((va_up na8 23 (upd (na8 23) v11.toNatClampNeg z27)) 17) v11.toNatClampNeg x36_3)) ma9 wa_36 x36_1 x36_2 v11 z28 _ _ ls (show (pf7 24).toInt = (pf 24).toInt from by omega) (show (pf7 25).toInt = (pf 25).toInt from by omega) (show (pf7 26).toInt = (pf 26).toInt from by omega) (show x36_1.toInt = (pf 11).toInt from by omega) (show 0 ≤ x36_2.toInt from by omega) (show x36_2.toInt ≤ 60 from by omega) (show (pf7 12).toInt = (pf 12).toInt + x36_2.toInt from by omega) (show x36_1.toInt - 1 ≤ z28.toInt from by omega) (show z28.toInt < x36_1.toInt + x36_2.toInt from by omega) (show (pf 11).toInt + 1 ≤ (pf7 11).toInt from by omega) (show (pf7 11).toInt < (tf 6).toInt from by omega) (show (pf 11).toInt + x36_2.toInt < (tf 6).toInt from by omega) (show (pf 13).toInt + 1 ≤ (pf7 13).toInt from by omega) (show (pf7 13).toInt - (pf 13).toInt ≤ (pf7 11).toInt - (pf 11).toInt - (z28.toInt + 1 - x36_1.toInt) from by omega) (show bp ta (pf 11) + 1 ≤ bp ta (pf7 11) from by omega) (show FrB (pf 13).toInt na ma (va_up (va_up na8 23 (upd (na8 23) v11.toNatClampNeg z27)) 17 (upd ((va_up na8 23 (upd (na8 23) v11.toNatClampNeg z27)) 17) v11.toNatClampNeg x36_3)) ma9 from (FrB.un (FrB.un hfb (by omega) (by omega)) (by omega) (by omega))) (show FrW (pf 26).toInt wa wa_36 from hfw) (show Mks ta (pf 11).toInt ((pf 11).toInt + x36_2.toInt) from (by first | exact hmks.le (by omega) (by omega) | exact hmks.step (y := (pf_7 11)) (by omega) (by omega) (by omega))) (show ExR ta (tf 6).toInt (va_up (va_up na8 23 (upd (na8 23) v11.toNatClampNeg z27)) 17 (upd ((va_up na8 23 (upd (na8 23) v11.toNatClampNeg z27)) 17) v11.toNatClampNeg x36_3)) ma9 v11 (pf 13).toInt (pf7 13).toInt (3 * (bp ta (pf7 11) - bp ta (pf 11)) - 3 * (z28.toInt + 1 - x36_1.toInt)) ((pf 12).toInt + (z28.toInt + 1 - x36_1.toInt)) from (ExR.le (exr_up ht_x36_3 (by omega) (fun x hx => ⟨fun j => by rw [up_far hx, up_far hx], fun _ => rfl⟩) (by omega) (Or.inl (by rw [va_up_n (by decide), va_up_n (by decide), hnk_v11.1]; rfl)) (ndt_of (by rw [va_up_n (by decide), va_up_n (by decide), hnk_v11.2.1]) (by omega) (by omega) (by omega)) (by rw [va_up_s, pk_us]) (fun _ hp => by first | (rw [dp_un (by decide), dp_us]; omega) | exact absurd (by rw [va_up_n (by decide), va_up_n (by decide), hnk_v11.2.1] at hp; exact hp) (hplv.2 (by omega))) (by rw [dp_un (by decide), dp_us]; omega) (by rw [dp_un (by decide), dp_us]; omega) (by rw [dp_un (by decide), dp_us]; omega) ⟨(by rw [va_up_n (by decide), va_up_n (by decide), hnk_v11.2.2.1]; decide), (by rw [hnk_v11.2.2.2.2]; decide)⟩) (by omega) (by omega) (by omega) (Int.le_refl _))) (show z28.toInt - x36_1.toInt + 1 < (n_36 : Int) from by omega) hw (lv_sub hl [3, 4, 5, 1, 0] rfl)
        · have nc25 : ¬ v22.toInt = (0 : Int) := mt (i_eq (x := v22) (y := 0)).mpr c25
          refine lv_aload_n S.x S.b d_Mpg_unary_66 rfl (lv_at hl 1 rfl) ?_
          refine px_get S k_Mpg hT hw 0 0 23 (v := .ref (r 23)) rfl rfl rfl (by decide) m10_11 d_Mpg_unary_67 ?_
          refine lv_iload_n S.x S.b d_Mpg_unary_70 rfl (lv_at hl 4 rfl) ?_
          refine px_iald S hT hw 0 19 (n := 2100) (f := (na8 23)) rfl gp_23 (x := x36_3) (vp_in_iff.mpr (by constructor <;> omega)) d_Mpg_unary_71 ?_
          refine lv_topi (fun z29 ez29 => ?_)
          have lz29 := Int32.le_toInt z29
          have uz29 := Int32.toInt_lt z29
          have rz29 : z29.toInt = dp na8 x36_3 := by rw [ez29]; rfl
          refine lv_goto (tgt := 83) S.x S.b d_Mpg_unary_72 (by decide) ?_
          refine px_iast S hT hw 0 19 (n := 2100) (f := (na8 23)) (x := v11) (y := z29) rfl gp_23 (vp_in_iff.mpr (by constructor <;> omega)) d_Mpg_unary_83 (w' := wdP cs h r g tf ta pf7 (va_up na8 23 (upd (na8 23) v11.toNatClampNeg z29)) ma9 wa_36 cf ca ef ea xf xa) (ps' := [wdP cs h r g tf ta pf7 (va_up na8 23 (upd (na8 23) v11.toNatClampNeg z29)) ma9 wa_36 cf ca ef ea xf xa]) sp_23 rfl (fun H locs hw => ?_)
          refine lv_aload_n S.x S.b d_Mpg_unary_84 rfl (lv_at hl 1 rfl) ?_
          refine px_get S k_Mpg hT hw 0 0 17 (v := .ref (r 17)) rfl rfl rfl (by decide) m10_1 d_Mpg_unary_85 ?_
          refine lv_iload S.x S.b d_Mpg_unary_88 (lv_at hl 0 rfl) ?_
          refine lv_iload_n S.x S.b d_Mpg_unary_90 rfl (lv_at hl 4 rfl) ?_
          refine px_iast S hT hw 0 13 (n := 2100) (f := ((va_up na8 23 (upd (na8 23) v11.toNatClampNeg z29)) 17)) (x := v11) (y := x36_3) rfl gp_17 (vp_in_iff.mpr (by constructor <;> omega)) d_Mpg_unary_91 (w' := wdP cs h r g tf ta pf7 (va_up (va_up na8 23 (upd (na8 23) v11.toNatClampNeg z29)) 17 (upd ((va_up na8 23 (upd (na8 23) v11.toNatClampNeg z29)) 17) v11.toNatClampNeg x36_3)) ma9 wa_36 cf ca ef ea xf xa) (ps' := [wdP cs h r g tf ta pf7 (va_up (va_up na8 23 (upd (na8 23) v11.toNatClampNeg z29)) 17 (upd ((va_up na8 23 (upd (na8 23) v11.toNatClampNeg z29)) 17) v11.toNatClampNeg x36_3)) ma9 wa_36 cf ca ef ea xf xa]) sp_17 rfl (fun H locs hw => ?_)
          refine lv_iload S.x S.b d_Mpg_unary_92 (lv_at hl 0 rfl) ?_
          refine lv_istore_n (lv' := [(3, .int v11), (5, .int v11), (0, .ref h), (1, .int x36_1), (2, .int x36_2), (4, .int x36_4)]) S.x S.b d_Mpg_unary_94 rfl hl (by decide) rfl (fun ls hl => ?_)
          obtain ⟨z30, ez30⟩ : ∃ y : Int32, y = x36_4 + (-1) := ⟨_, rfl⟩
          have tz30 : z30.toInt = (x36_4.toInt + (-1) + 2147483648) % 4294967296 - 2147483648 := by rw [ez30]; exact i_add x36_4 (-1)
          have lz30 := Int32.le_toInt z30
          have uz30 := Int32.toInt_lt z30
          try replace tz30 : z30.toInt = x36_4.toInt + (-1) := by omega
          refine lv_iinc (v := z30) (lv' := [(4, .int z30), (3, .int v11), (5, .int v11), (0, .ref h), (1, .int x36_1), (2, .int x36_2)]) S.x S.b d_Mpg_unary_95 hl (k := 5) rfl (by rw [ez30]; rfl) (by decide) rfl (fun ls hl => ?_)
          refine lv_goto (tgt := 36) S.x S.b d_Mpg_unary_98 (by decide) ?_
          exact ih36 pf7 (va_up (va_up na8 23 (upd (na8 23) v11.toNatClampNeg z29)) 17 (upd ((va_up na8 23 (upd (na8 23) v11.toNatClampNeg z29)) 17) v11.toNatClampNeg x36_3)) ma9 wa_36 x36_1 x36_2 v11 z30 _ _ ls (show (pf7 24).toInt = (pf 24).toInt from by omega) (show (pf7 25).toInt = (pf 25).toInt from by omega) (show (pf7 26).toInt = (pf 26).toInt from by omega) (show x36_1.toInt = (pf 11).toInt from by omega) (show 0 ≤ x36_2.toInt from by omega) (show x36_2.toInt ≤ 60 from by omega) (show (pf7 12).toInt = (pf 12).toInt + x36_2.toInt from by omega) (show x36_1.toInt - 1 ≤ z30.toInt from by omega) (show z30.toInt < x36_1.toInt + x36_2.toInt from by omega) (show (pf 11).toInt + 1 ≤ (pf7 11).toInt from by omega) (show (pf7 11).toInt < (tf 6).toInt from by omega) (show (pf 11).toInt + x36_2.toInt < (tf 6).toInt from by omega) (show (pf 13).toInt + 1 ≤ (pf7 13).toInt from by omega) (show (pf7 13).toInt - (pf 13).toInt ≤ (pf7 11).toInt - (pf 11).toInt - (z30.toInt + 1 - x36_1.toInt) from by omega) (show bp ta (pf 11) + 1 ≤ bp ta (pf7 11) from by omega) (show FrB (pf 13).toInt na ma (va_up (va_up na8 23 (upd (na8 23) v11.toNatClampNeg z29)) 17 (upd ((va_up na8 23 (upd (na8 23) v11.toNatClampNeg z29)) 17) v11.toNatClampNeg x36_3)) ma9 from (FrB.un (FrB.un hfb (by omega) (by omega)) (by omega) (by omega))) (show FrW (pf 26).toInt wa wa_36 from hfw) (show Mks ta (pf 11).toInt ((pf 11).toInt + x36_2.toInt) from (by first | exact hmks.le (by omega) (by omega) | exact hmks.step (y := (pf_7 11)) (by omega) (by omega) (by omega))) (show ExR ta (tf 6).toInt (va_up (va_up na8 23 (upd (na8 23) v11.toNatClampNeg z29)) 17 (upd ((va_up na8 23 (upd (na8 23) v11.toNatClampNeg z29)) 17) v11.toNatClampNeg x36_3)) ma9 v11 (pf 13).toInt (pf7 13).toInt (3 * (bp ta (pf7 11) - bp ta (pf 11)) - 3 * (z30.toInt + 1 - x36_1.toInt)) ((pf 12).toInt + (z30.toInt + 1 - x36_1.toInt)) from (ExR.le (exr_up ht_x36_3 (by omega) (fun x hx => ⟨fun j => by rw [up_far hx, up_far hx], fun _ => rfl⟩) (by omega) (Or.inl (by rw [va_up_n (by decide), va_up_n (by decide), hnk_v11.1]; rfl)) (ndt_of (by rw [va_up_n (by decide), va_up_n (by decide), hnk_v11.2.1]) (by omega) (by omega) (by omega)) (by rw [va_up_s, pk_us]) (fun _ hp => by first | (rw [dp_un (by decide), dp_us]; omega) | exact absurd (by rw [va_up_n (by decide), va_up_n (by decide), hnk_v11.2.1] at hp; exact hp) (hplv.2 (by omega))) (by rw [dp_un (by decide), dp_us]; omega) (by rw [dp_un (by decide), dp_us]; omega) (by rw [dp_un (by decide), dp_us]; omega) ⟨(by rw [va_up_n (by decide), va_up_n (by decide), hnk_v11.2.2.1]; decide), (by rw [hnk_v11.2.2.2.2]; decide)⟩) (by omega) (by omega) (by omega) (Int.le_refl _))) (show z30.toInt - x36_1.toInt + 1 < (n_36 : Int) from by omega) hw (lv_sub hl [3, 4, 5, 1, 0] rfl)
  have J7 : ∀ (n_7 : Nat) (pf_7 : Nat → Int32) (x7_1 x7_2 : Int32) (H : Heap) (locs : List Loc) (ls : Array Slot), ((pf_7 13).toInt = (pf 13).toInt) → ((pf_7 24).toInt = (pf 24).toInt) → ((pf_7 25).toInt = (pf 25).toInt) → ((pf_7 26).toInt = (pf 26).toInt) → (x7_1.toInt = (pf 11).toInt) → (0 ≤ x7_2.toInt) → ((pf_7 11).toInt = (pf 11).toInt + x7_2.toInt) → ((pf_7 12).toInt = (pf 12).toInt + x7_2.toInt) → ((pf_7 12).toInt ≤ 60) → ((pf_7 11).toInt < (tf 6).toInt) → (bp ta (pf 11) + x7_2.toInt ≤ bp ta (pf_7 11)) → (Mks ta (pf 11).toInt ((pf 11).toInt + x7_2.toInt)) → (tf 6).toInt - (pf_7 11).toInt < (n_7 : Int) → pw D A s.heap H locs [wdP cs h r g tf ta pf_7 na ma wa cf ca ef ea xf xa] → lv_has ls 6 [(0, .ref h), (1, .int x7_1), (2, .int x7_2)] → W p l e { frames := (8 * lv + 17), cells := 1, slots := 6, locals := (220 * lv + 630) } s m [.ref h].toArray below meth c H locs 0 0 (tx_MQ below (thQi D (va_A ([wdP cs h r g tf ta pf na ma wa cf ca ef ea xf xa] : List va_W).flatten s.heap.size) "java/lang/IllegalArgumentException" (fun v ps => ∃ (pf' : Nat → Int32) (na' : Nat → Nat → Int32) (ma' : Nat → Nat → Int32) (wa' : Nat → Nat → Int32), (ps = [wdP cs h r g tf ta pf' na' ma' wa' cf ca ef ea xf xa]) ∧ ((pf 11).toInt + 1 ≤ (pf' 11).toInt) ∧ ((pf' 11).toInt < (tf 6).toInt) ∧ ((pf 13).toInt + 1 ≤ (pf' 13).toInt) ∧ ((pf' 13).toInt - (pf 13).toInt ≤ (pf' 11).toInt - (pf 11).toInt) ∧ (bp ta (pf 11) + 1 ≤ bp ta (pf' 11)) ∧ ((pf' 12).toInt = (pf 12).toInt) ∧ ((pf' 24).toInt = (pf 24).toInt) ∧ ((pf' 25).toInt = (pf 25).toInt) ∧ ((pf' 26).toInt = (pf 26).toInt) ∧ (FrB (pf 13).toInt na ma na' ma') ∧ (FrW (pf 26).toInt wa wa') ∧ (ExR ta (tf 6).toInt na' ma' v (pf 13).toInt (pf' 13).toInt (3 * (bp ta (pf' 11) - bp ta (pf 11))) (pf 12).toInt)) (fun ps => ∃ (pf' : Nat → Int32) (na' : Nat → Nat → Int32) (ma' : Nat → Nat → Int32) (wa' : Nat → Nat → Int32), ps = [wdP cs h r g tf ta pf' na' ma' wa' cf ca ef ea xf xa] ∧ 0 ≤ (pf' 11).toInt ∧ (pf' 11).toInt + 1 ≤ (tf 6).toInt) s.heap.size (tot s.heap)) [.ref h].toArray s 1 6 A) (F0 m 7 ls []) := by
    intro  n_7
    induction n_7 with
    | zero =>
      intro pf_7 x7_1 x7_2 H locs ls k7_0 k7_1 k7_2 k7_3 k7_4 k7_5 k7_6 k7_7 k7_8 k7_9 k7_10 k7_11 hm hw hl
      have lx7_1 := Int32.le_toInt x7_1
      have ux7_1 := Int32.toInt_lt x7_1
      have lx7_2 := Int32.le_toInt x7_2
      have ux7_2 := Int32.toInt_lt x7_2
      have hmks := k7_11
      exact absurd hm (by omega)
    | succ n_7 ih7 =>
      intro pf_7 x7_1 x7_2 H locs ls k7_0 k7_1 k7_2 k7_3 k7_4 k7_5 k7_6 k7_7 k7_8 k7_9 k7_10 k7_11 hm hw hl
      have lx7_1 := Int32.le_toInt x7_1
      have ux7_1 := Int32.toInt_lt x7_1
      have lx7_2 := Int32.le_toInt x7_2
      have ux7_2 := Int32.toInt_lt x7_2
      have hmks := k7_11
      refine lv_aload_n S.x S.b d_Mpg_unary_7 rfl (lv_at hl 0 rfl) ?_
      refine px_calli (pr := []) (px_runV (As := []) (rest := []) S (c_mp_isPrefix l D cs h r g tf ta pf_7 na ma wa cf ca ef ea xf xa   (show 0 ≤ (pf_7 11).toInt from by omega) (show (pf_7 11).toInt < (tf 6).toInt from by omega) (show (tf 6).toInt ≤ 2049 from by omega) htk _) hT (pr := []) (pcs := [wdP cs h r g tf ta pf_7 na ma wa cf ca ef ea xf xa]) hw (oX_call (P := (fun A U H => (oP A g U H))) (pr := []) oG_P hw hA hP) (px_recv hT hw 0 0 rfl rfl rfl) m12_26 m12_23 m12_25 ms_9_8 m1_21 q_Mpg_isPrefix ⟨show 4 + 1 ≤ (8 * lv + 17) from by omega, show 8 + (1 + 11) + 160 ≤ (220 * lv + 630) from by omega⟩ hl.1 rfl (Nat.le_of_ble_eq_true rfl) d_Mpg_unary_8 ⟨Nat.le_of_ble_eq_true rfl, Nat.le_of_ble_eq_true rfl⟩) hw hA (fun v32 p31 H locs hp31 hw => ?_)
      obtain ⟨rfl, e33, e34⟩ := hp31
      have e33 := z_rng e33
      have e34 : v32.toInt = 1 → (pf_7 11).toInt + 1 < (tf 6).toInt ∧ so ta (pf_7 11) = 5 := e34
      have hw : pw D A s.heap H locs [wdP cs h r g tf ta pf_7 na ma wa cf ca ef ea xf xa] := hw
      have lv32 := Int32.le_toInt v32
      have uv32 := Int32.toInt_lt v32
      refine lv_if_eq (tgt := 24) S.x S.b d_Mpg_unary_11 (by decide) (fun c35 => ?_) (fun c35 => ?_)
      · have nc35 : v32.toInt = (0 : Int) := (i_eq (x := v32) (y := 0)).mp c35
        refine lv_aload_n S.x S.b d_Mpg_unary_24 rfl (lv_at hl 0 rfl) ?_
        refine th_calli (ps0 := [wdP cs h r g tf ta pf na ma wa cf ca ef ea xf xa]) (pr := []) (pcs := [wdP cs h r g tf ta pf_7 na ma wa cf ca ef ea xf xa]) (As := []) (rest := []) (c_mp_postfix l D cs h r g tf ta cf ca ef ea xf xa pf_7 na ma wa  lv (show 0 ≤ (pf_7 11).toInt from by omega) (show (pf_7 11).toInt < (tf 6).toInt from by omega) (show (tf 6).toInt ≤ 2049 from by omega) (show 0 ≤ (pf_7 12).toInt from by omega) (show (pf_7 12).toInt ≤ 60 from by omega) (show 0 ≤ (pf_7 13).toInt from by omega) (show (pf_7 13).toInt ≤ (pf_7 11).toInt + 20 from by omega) (show 0 ≤ (pf_7 26).toInt from by omega) (show (pf_7 26).toInt ≤ (pf_7 12).toInt from by omega) (show 61 ≤ (pf_7 12).toInt + (lv : Int) from by omega) (show lv ≤ 61 from by omega) hlf htk hE) S hT hw (oX_call (P := (fun A U H => (oN A U H) ∧ (oP A g U H))) (pr := []) (oG_and oG_N oG_P) hw hA ⟨hN, hP⟩) (px_recv hT hw 0 0 rfl rfl rfl) m12_30 m12_27 m12_29 ms_9_9 m1_21 q_Mpg_postfix ⟨show (8 * lv + 16) + 1 ≤ (8 * lv + 17) from by omega, show 8 + (3 + 11) + (220 * lv + 600) ≤ (220 * lv + 630) from by omega⟩ hl.1 rfl (Nat.le_of_ble_eq_true rfl) d_Mpg_unary_25 ⟨Nat.le_of_ble_eq_true rfl, Nat.le_of_ble_eq_true rfl⟩ hne hlk hA hAe (fun o t h => Or.inr h) ?_ (fun v45 p44 H locs hp44 hw => ?_)
        · exact fun p1 H1 locs1 hp hw => by obtain ⟨pq1, pq2, pq3, pq4, rfl, hq1, hq2⟩ := hp; exact ⟨_, ⟨pq1, pq2, pq3, pq4, rfl, hq1, hq2⟩, hw⟩
        obtain ⟨pf40, na41, ma42, wa43, rfl, e46, e47, e48, e49, e50, e51, e52, e53, e54, e55, e56, e57⟩ := hp44
        have e46 : (pf_7 11).toInt + 1 ≤ (pf40 11).toInt := e46
        have e47 : (pf40 11).toInt < (tf 6).toInt := e47
        have e48 : (pf_7 13).toInt + 1 ≤ (pf40 13).toInt := e48
        have e49 : (pf40 13).toInt - (pf_7 13).toInt ≤ (pf40 11).toInt - (pf_7 11).toInt := e49
        have e50 : bp ta (pf_7 11) + 1 ≤ bp ta (pf40 11) := e50
        have e51 : (pf40 12).toInt = (pf_7 12).toInt := e51
        have e52 : (pf40 24).toInt = (pf_7 24).toInt := e52
        have e53 : (pf40 25).toInt = (pf_7 25).toInt := e53
        have e54 : (pf40 26).toInt = (pf_7 26).toInt := e54
        have e55 : FrB (pf_7 13).toInt na ma na41 ma42 := e55
        have hfb := hfb.tr e55 (by omega)
        have e56 : FrW (pf_7 26).toInt wa wa43 := e56
        have hfw := hfw.tr e56 (by omega)
        have e57 : ExR ta (tf 6).toInt na41 ma42 v45 (pf_7 13).toInt (pf40 13).toInt (3 * (bp ta (pf40 11) - bp ta (pf_7 11))) (pf_7 12).toInt := e57
        have ht_v45 := e57
        have hn_ht_v45 := ht_v45.num
        have hw : pw D A s.heap H locs [wdP cs h r g tf ta pf40 na41 ma42 wa43 cf ca ef ea xf xa] := hw
        have lv45 := Int32.le_toInt v45
        have uv45 := Int32.toInt_lt v45
        refine lv_istore_n (lv' := [(3, .int v45), (0, .ref h), (1, .int x7_1), (2, .int x7_2)]) S.x S.b d_Mpg_unary_28 rfl hl (by decide) rfl (fun ls hl => ?_)
        refine lv_iload_n S.x S.b d_Mpg_unary_29 rfl (lv_at hl 2 rfl) ?_
        refine lv_iload_n S.x S.b d_Mpg_unary_30 rfl (lv_at hl 3 rfl) ?_
        refine lv_iadd S.x S.b d_Mpg_unary_31 ?_
        refine lv_topi (fun z58 ez58 => ?_)
        have tz58 : z58.toInt = (x7_1.toInt + x7_2.toInt + 2147483648) % 4294967296 - 2147483648 := by rw [ez58]; exact i_add x7_1 x7_2
        have lz58 := Int32.le_toInt z58
        have uz58 := Int32.toInt_lt z58
        try replace tz58 : z58.toInt = x7_1.toInt + x7_2.toInt := by omega
        refine lv_iconst (v := 1) S.x S.b d_Mpg_unary_32 (by decide) ?_
        refine lv_isub S.x S.b d_Mpg_unary_33 ?_
        refine lv_topi (fun z59 ez59 => ?_)
        have tz59 : z59.toInt = (z58.toInt - (1 : Int) + 2147483648) % 4294967296 - 2147483648 := by rw [ez59]; exact i_sub z58 1
        have lz59 := Int32.le_toInt z59
        have uz59 := Int32.toInt_lt z59
        try replace tz59 : z59.toInt = z58.toInt - (1 : Int) := by omega
        refine lv_istore (lv' := [(4, .int z59), (3, .int v45), (0, .ref h), (1, .int x7_1), (2, .int x7_2)]) S.x S.b d_Mpg_unary_34 hl (by decide) rfl (fun ls hl => ?_)
        exact J36 ((z59.toInt - x7_1.toInt + 1).toNat + 1) pf40 na41 ma42 wa43 x7_1 x7_2 v45 z59 _ _ ls (show (pf40 24).toInt = (pf 24).toInt from by omega) (show (pf40 25).toInt = (pf 25).toInt from by omega) (show (pf40 26).toInt = (pf 26).toInt from by omega) (show x7_1.toInt = (pf 11).toInt from by omega) (show 0 ≤ x7_2.toInt from by omega) (show x7_2.toInt ≤ 60 from by omega) (show (pf40 12).toInt = (pf 12).toInt + x7_2.toInt from by omega) (show x7_1.toInt - 1 ≤ z59.toInt from by omega) (show z59.toInt < x7_1.toInt + x7_2.toInt from by omega) (show (pf 11).toInt + 1 ≤ (pf40 11).toInt from by omega) (show (pf40 11).toInt < (tf 6).toInt from by omega) (show (pf 11).toInt + x7_2.toInt < (tf 6).toInt from by omega) (show (pf 13).toInt + 1 ≤ (pf40 13).toInt from by omega) (show (pf40 13).toInt - (pf 13).toInt ≤ (pf40 11).toInt - (pf 11).toInt - (z59.toInt + 1 - x7_1.toInt) from by omega) (show bp ta (pf 11) + 1 ≤ bp ta (pf40 11) from by omega) (show FrB (pf 13).toInt na ma na41 ma42 from hfb) (show FrW (pf 26).toInt wa wa43 from hfw) (show Mks ta (pf 11).toInt ((pf 11).toInt + x7_2.toInt) from (by first | exact hmks.le (by omega) (by omega) | exact hmks.step (y := (pf_7 11)) (by omega) (by omega) (by omega))) (show ExR ta (tf 6).toInt na41 ma42 v45 (pf 13).toInt (pf40 13).toInt (3 * (bp ta (pf40 11) - bp ta (pf 11)) - 3 * (z59.toInt + 1 - x7_1.toInt)) ((pf 12).toInt + (z59.toInt + 1 - x7_1.toInt)) from (ExR.le ht_v45 (by omega) (by omega) (by omega) (by omega))) (show z59.toInt - x7_1.toInt + 1 < ((((z59.toInt - x7_1.toInt + 1).toNat + 1 : Nat) : Int) : Int) from by omega) hw (lv_sub hl [2, 3, 4, 1, 0] rfl)
      · have nc35 : ¬ v32.toInt = (0 : Int) := mt (i_eq (x := v32) (y := 0)).mpr c35
        refine lv_aload_n S.x S.b d_Mpg_unary_14 rfl (lv_at hl 0 rfl) ?_
        refine th_callv (ps0 := [wdP cs h r g tf ta pf na ma wa cf ca ef ea xf xa]) (pr := []) (pcs := [wdP cs h r g tf ta pf_7 na ma wa cf ca ef ea xf xa]) (As := []) (rest := []) (c_mp_opens l D cs h r g tf ta na ma wa cf ca ef ea xf xa pf_7   (show 0 ≤ (pf_7 11).toInt from by omega) (show (pf_7 11).toInt < (tf 6).toInt from by omega) (show (tf 6).toInt ≤ 2049 from by omega) (show (pf_7 11).toInt + 1 < (tf 6).toInt from by omega) (show 0 ≤ (pf_7 12).toInt from by omega) (show (pf_7 12).toInt ≤ 60 from by omega) hlf htk) S hT hw (oX_call (P := (fun A U H => (oN A U H) ∧ (oP A g U H))) (pr := []) (oG_and oG_N oG_P) hw hA ⟨hN, hP⟩) (px_recv hT hw 0 0 rfl rfl rfl) m11_238 m11_235 m11_237 ms_9_1 m1_21 q_Mpg_opens ⟨show 7 + 1 ≤ (8 * lv + 17) from by omega, show 8 + (1 + 11) + 150 ≤ (220 * lv + 630) from by omega⟩ hl.1 rfl (Nat.le_of_ble_eq_true rfl) d_Mpg_unary_15 ⟨Nat.le_of_ble_eq_true rfl, Nat.le_of_ble_eq_true rfl⟩ hne hlk hA hAe (fun o t h => Or.inr h) ?_ (fun p62 H locs hp62 hw => ?_)
        · exact fun p1 H1 locs1 hp hw => by obtain ⟨pq1, pq2, pq3, pq4, rfl, hq1, hq2⟩ := hp; exact ⟨_, ⟨pq1, pq2, pq3, pq4, rfl, hq1, hq2⟩, hw⟩
        obtain ⟨pf61, rfl, e64, e65, e66, e67, e68, e69, e70, e71, e72, e73⟩ := hp62
        have e64 : (pf61 11).toInt = (pf_7 11).toInt + 1 := e64
        have e65 : (pf61 11).toInt < (tf 6).toInt := e65
        have e66 : bp ta (pf_7 11) + sz ta (pf_7 11) ≤ bp ta (pf61 11) := e66
        have e67 : 1 ≤ sz ta (pf_7 11) := e67
        have e68 : (pf61 12).toInt = (pf_7 12).toInt + 1 := e68
        have e69 : (pf_7 12).toInt < 60 := e69
        have e70 : (pf61 13).toInt = (pf_7 13).toInt := e70
        have e71 : (pf61 24).toInt = (pf_7 24).toInt := e71
        have e72 : (pf61 25).toInt = (pf_7 25).toInt := e72
        have e73 : (pf61 26).toInt = (pf_7 26).toInt := e73
        have hw : pw D A s.heap H locs [wdP cs h r g tf ta pf61 na ma wa cf ca ef ea xf xa] := hw
        obtain ⟨z74, ez74⟩ : ∃ y : Int32, y = x7_2 + 1 := ⟨_, rfl⟩
        have tz74 : z74.toInt = (x7_2.toInt + 1 + 2147483648) % 4294967296 - 2147483648 := by rw [ez74]; exact i_add x7_2 1
        have lz74 := Int32.le_toInt z74
        have uz74 := Int32.toInt_lt z74
        try replace tz74 : z74.toInt = x7_2.toInt + 1 := by omega
        refine lv_iinc (v := z74) (lv' := [(2, .int z74), (0, .ref h), (1, .int x7_1)]) S.x S.b d_Mpg_unary_18 hl (k := 2) rfl (by rw [ez74]; rfl) (by decide) rfl (fun ls hl => ?_)
        refine lv_goto (tgt := 7) S.x S.b d_Mpg_unary_21 (by decide) ?_
        exact ih7 pf61 x7_1 z74 _ _ ls (show (pf61 13).toInt = (pf 13).toInt from by omega) (show (pf61 24).toInt = (pf 24).toInt from by omega) (show (pf61 25).toInt = (pf 25).toInt from by omega) (show (pf61 26).toInt = (pf 26).toInt from by omega) (show x7_1.toInt = (pf 11).toInt from by omega) (show 0 ≤ z74.toInt from by omega) (show (pf61 11).toInt = (pf 11).toInt + z74.toInt from by omega) (show (pf61 12).toInt = (pf 12).toInt + z74.toInt from by omega) (show (pf61 12).toInt ≤ 60 from by omega) (show (pf61 11).toInt < (tf 6).toInt from by omega) (show bp ta (pf 11) + z74.toInt ≤ bp ta (pf61 11) from by omega) (show Mks ta (pf 11).toInt ((pf 11).toInt + z74.toInt) from (by first | exact hmks.le (by omega) (by omega) | exact hmks.step (y := (pf_7 11)) (by omega) (by omega) (by omega))) (show (tf 6).toInt - (pf61 11).toInt < (n_7 : Int) from by omega) hw (lv_sub hl [1, 2, 0] rfl)
  refine lv_aload_n S.x S.b d_Mpg_unary_0 rfl (lv_at hl 0 rfl) ?_
  refine px_get S k_Mpg hT hw 0 0 11 (v := .int (pf 11)) rfl rfl rfl (by decide) m9_235 d_Mpg_unary_1 ?_
  refine lv_istore_n (lv' := [(1, .int (pf 11)), (0, .ref h)]) S.x S.b d_Mpg_unary_4 rfl hl (by decide) rfl (fun ls hl => ?_)
  refine lv_iconst (v := 0) S.x S.b d_Mpg_unary_5 (by decide) ?_
  refine lv_istore_n (lv' := [(2, .int 0), (1, .int (pf 11)), (0, .ref h)]) S.x S.b d_Mpg_unary_6 rfl hl (by decide) rfl (fun ls hl => ?_)
  exact J7 (((tf 6).toInt - (pf 11).toInt).toNat + 1) pf (pf 11) (0 : Int32) _ _ ls (show (pf 13).toInt = (pf 13).toInt from by omega) (show (pf 24).toInt = (pf 24).toInt from by omega) (show (pf 25).toInt = (pf 25).toInt from by omega) (show (pf 26).toInt = (pf 26).toInt from by omega) (show (pf 11).toInt = (pf 11).toInt from by omega) (show 0 ≤ (0 : Int) from by omega) (show (pf 11).toInt = (pf 11).toInt + (0 : Int) from by omega) (show (pf 12).toInt = (pf 12).toInt + (0 : Int) from by omega) (show (pf 12).toInt ≤ 60 from by omega) (show (pf 11).toInt < (tf 6).toInt from by omega) (show bp ta (pf 11) + (0 : Int) ≤ bp ta (pf 11) from by omega) (show Mks ta (pf 11).toInt ((pf 11).toInt + (0 : Int)) from (Mks.none (by omega))) (show (tf 6).toInt - (pf 11).toInt < (((((tf 6).toInt - (pf 11).toInt).toNat + 1 : Nat) : Int) : Int) from by omega) hw (lv_sub hl [2, 1, 0] rfl)
