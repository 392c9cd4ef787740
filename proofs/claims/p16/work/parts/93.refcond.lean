theorem m12_15 : Cond.methodLink "HomeSystemModel$Program" 412 ⟨"HomeSystemModel$Program", "binary", "()I"⟩ ∈ AL := AL_12 (List.mem_of_getElem? (i := 15) rfl) rfl
theorem m12_18 : Cond.code ⟨"HomeSystemModel$Program", "binary", "()I"⟩ prog_16_method_37_code 5 (Option.some FieldType.int) ∈ AL := AL_12 (List.mem_of_getElem? (i := 18) rfl) rfl
theorem ms_9_6 : Cond.selects "HomeSystemModel$Program" ⟨"HomeSystemModel$Program", "binary", "()I"⟩ ⟨"HomeSystemModel$Program", "binary", "()I"⟩ ∈ AL := AL_p (q := (⟨"HomeSystemModel$Program", "binary", "()I"⟩, 69)) (by unfold lw_privs; exact List.mem_append_right _ (List.mem_append_right _ (List.mem_append_right _ (List.mem_append_right _ (List.mem_append_right _ (List.mem_append_right _ (List.mem_append_right _ (List.mem_append_right _ (List.mem_append_left _ (List.mem_of_getElem? (i := 6) rfl))))))))))
theorem m12_17 : Cond.instanceMethod ⟨"HomeSystemModel$Program", "binary", "()I"⟩ ∈ AL := AL_12 (List.mem_of_getElem? (i := 17) rfl) rfl
theorem m12_11 : Cond.methodLink "HomeSystemModel$Program" 393 ⟨"HomeSystemModel$Program", "conditional", "()I"⟩ ∈ AL := AL_12 (List.mem_of_getElem? (i := 11) rfl) rfl
theorem m12_14 : Cond.code ⟨"HomeSystemModel$Program", "conditional", "()I"⟩ prog_16_method_32_code 7 (Option.some FieldType.int) ∈ AL := AL_12 (List.mem_of_getElem? (i := 14) rfl) rfl
theorem ms_9_5 : Cond.selects "HomeSystemModel$Program" ⟨"HomeSystemModel$Program", "conditional", "()I"⟩ ⟨"HomeSystemModel$Program", "conditional", "()I"⟩ ∈ AL := AL_p (q := (⟨"HomeSystemModel$Program", "conditional", "()I"⟩, 69)) (by unfold lw_privs; exact List.mem_append_right _ (List.mem_append_right _ (List.mem_append_right _ (List.mem_append_right _ (List.mem_append_right _ (List.mem_append_right _ (List.mem_append_right _ (List.mem_append_right _ (List.mem_append_left _ (List.mem_of_getElem? (i := 5) rfl))))))))))
theorem m12_13 : Cond.instanceMethod ⟨"HomeSystemModel$Program", "conditional", "()I"⟩ ∈ AL := AL_12 (List.mem_of_getElem? (i := 13) rfl) rfl
set_option maxHeartbeats 4000000 in
set_option maxRecDepth 100000 in
theorem c_mp_conditional (l : Launch) (D : va_G) (cs : Nat → ClassId) (h : Nat) (r : Nat → Nat) (g : Nat → Nat → Option Nat) (tf : Nat → Int32) (ta : Nat → Nat → Int32) (cf : Nat → Int32) (ca : Nat → Nat → Int32) (ef : Nat → Int32) (ea : Nat → Nat → Int32) (xf : Nat → Int32) (xa : Nat → Nat → Int32) (pf : Nat → Int32) (na : Nat → Nat → Int32) (ma : Nat → Nat → Int32) (wa : Nat → Nat → Int32) (lv : Nat) (g0 : 0 ≤ (pf 11).toInt) (g1 : (pf 11).toInt < (tf 6).toInt) (g2 : (tf 6).toInt ≤ 2049) (g3 : 0 ≤ (pf 12).toInt) (g4 : (pf 12).toInt ≤ 60) (g5 : 0 ≤ (pf 13).toInt) (g6 : (pf 13).toInt ≤ (pf 11).toInt + 20) (g7 : 0 ≤ (pf 26).toInt) (g8 : (pf 26).toInt ≤ (pf 12).toInt) (g9 : 61 ≤ (pf 12).toInt + (lv : Int)) (g10 : lv ≤ 61) (hlf : l.flags = pinnedFlags ++ [noTraceFlag]) (htk : TkI tf ta) (hE : LvE l D cs lv) : ThI l y_Mpg_conditional b_Mpg_conditional 7 (.int) D cs (8 * lv + 19) (220 * lv + 690) [.ref h] [wdP cs h r g tf ta pf na ma wa cf ca ef ea xf xa] (oX (fun A U H => (oN A U H) ∧ (oP A g U H)) [wdP cs h r g tf ta pf na ma wa cf ca ef ea xf xa]) "java/lang/IllegalArgumentException" (fun v ps => ∃ (pf' : Nat → Int32) (na' : Nat → Nat → Int32) (ma' : Nat → Nat → Int32) (wa' : Nat → Nat → Int32), (ps = [wdP cs h r g tf ta pf' na' ma' wa' cf ca ef ea xf xa]) ∧ ((pf 11).toInt + 1 ≤ (pf' 11).toInt) ∧ ((pf' 11).toInt < (tf 6).toInt) ∧ ((pf 13).toInt + 1 ≤ (pf' 13).toInt) ∧ ((pf' 13).toInt - (pf 13).toInt ≤ (pf' 11).toInt - (pf 11).toInt) ∧ (bp ta (pf 11) + 1 ≤ bp ta (pf' 11)) ∧ ((pf' 12).toInt = (pf 12).toInt) ∧ ((pf' 24).toInt = (pf 24).toInt) ∧ ((pf' 25).toInt = (pf 25).toInt) ∧ ((pf' 26).toInt = (pf 26).toInt) ∧ (FrB (pf 13).toInt na ma na' ma') ∧ (FrW (pf 26).toInt wa wa') ∧ (ExD ta (tf 6).toInt na' ma' v (pf 13).toInt (pf' 13).toInt (3 * (bp ta (pf' 11) - bp ta (pf 11))) (pf 12).toInt)) (fun ps => ∃ (pf' : Nat → Int32) (na' : Nat → Nat → Int32) (ma' : Nat → Nat → Int32) (wa' : Nat → Nat → Int32), ps = [wdP cs h r g tf ta pf' na' ma' wa' cf ca ef ea xf xa] ∧ 0 ≤ (pf' 11).toInt ∧ (pf' 11).toInt + 1 ≤ (tf 6).toInt) := by
  refine th_enter (by decide) (Nat.le_of_ble_eq_true rfl) ?_
  intro p e s m below meth c A ls hAe S hr hlk hnm hA hT hX hw hl hne hadm
  have hl : lv_has ls 7 [(0, .ref h)] := hl
  have cstm1 : ((-1) : Int32).toInt = (-1) := rfl
  have cst1 : (1 : Int32).toInt = 1 := rfl
  have cst8 : (8 : Int32).toInt = 8 := rfl
  have hX : (fun A U H => (oN A U H) ∧ (oP A g U H)) A s s.heap := by rw [hAe]; exact hX
  obtain ⟨hN, hP⟩ := hX
  have hZ := hP.1
  have hF0 := hP.2.1
  have hfb : FrB (pf 13).toInt na ma na ma := FrB.rf
  have hfw : FrW (pf 26).toInt wa wa := FrW.rf
  refine lv_aload_n S.x S.b d_Mpg_conditional_0 rfl (lv_at hl 0 rfl) ?_
  refine px_get S k_Mpg hT hw 0 0 11 (v := .int (pf 11)) rfl rfl rfl (by decide) m9_235 d_Mpg_conditional_1 ?_
  refine lv_istore_n (lv' := [(1, .int (pf 11)), (0, .ref h)]) S.x S.b d_Mpg_conditional_4 rfl hl (by decide) rfl (fun ls hl => ?_)
  refine lv_aload_n S.x S.b d_Mpg_conditional_5 rfl (lv_at hl 1 rfl) ?_
  refine th_calli (ps0 := [wdP cs h r g tf ta pf na ma wa cf ca ef ea xf xa]) (pr := []) (pcs := [wdP cs h r g tf ta pf na ma wa cf ca ef ea xf xa]) (As := []) (rest := []) (c_mp_binary l D cs h r g tf ta cf ca ef ea xf xa pf na ma wa  lv (show 0 ≤ (pf 11).toInt from by omega) (show (pf 11).toInt < (tf 6).toInt from by omega) (show (tf 6).toInt ≤ 2049 from by omega) (show 0 ≤ (pf 12).toInt from by omega) (show (pf 12).toInt ≤ 60 from by omega) (show 0 ≤ (pf 13).toInt from by omega) (show (pf 13).toInt ≤ (pf 11).toInt + 20 from by omega) (show 0 ≤ (pf 26).toInt from by omega) (show (pf 26).toInt ≤ (pf 12).toInt from by omega) (show 61 ≤ (pf 12).toInt + (lv : Int) from by omega) (show lv ≤ 61 from by omega) hlf htk hE) S hT hw (oX_call (P := (fun A U H => (oN A U H) ∧ (oP A g U H))) (pr := []) (oG_and oG_N oG_P) hw hA ⟨hN, hP⟩) (px_recv hT hw 0 0 rfl rfl rfl) m12_18 m12_15 m12_17 ms_9_6 m1_21 q_Mpg_binary ⟨show (8 * lv + 18) + 1 ≤ (8 * lv + 19) from by omega, show 8 + (5 + 11) + (220 * lv + 660) ≤ (220 * lv + 690) from by omega⟩ hl.1 rfl (Nat.le_of_ble_eq_true rfl) d_Mpg_conditional_6 ⟨Nat.le_of_ble_eq_true rfl, Nat.le_of_ble_eq_true rfl⟩ hne hlk hA hAe (fun o t h => Or.inr h) ?_ (fun v10 p9 H locs hp9 hw => ?_)
  · exact fun p1 H1 locs1 hp hw => by obtain ⟨pq1, pq2, pq3, pq4, rfl, hq1, hq2⟩ := hp; exact ⟨_, ⟨pq1, pq2, pq3, pq4, rfl, hq1, hq2⟩, hw⟩
  obtain ⟨pf5, na6, ma7, wa8, rfl, e11, e12, e13, e14, e15, e16, e17, e18, e19, e20, e21, e22⟩ := hp9
  have e11 : (pf 11).toInt + 1 ≤ (pf5 11).toInt := e11
  have e12 : (pf5 11).toInt < (tf 6).toInt := e12
  have e13 : (pf 13).toInt + 1 ≤ (pf5 13).toInt := e13
  have e14 : (pf5 13).toInt - (pf 13).toInt ≤ (pf5 11).toInt - (pf 11).toInt := e14
  have e15 : bp ta (pf 11) + 1 ≤ bp ta (pf5 11) := e15
  have e16 : (pf5 12).toInt = (pf 12).toInt := e16
  have e17 : (pf5 24).toInt = (pf 24).toInt := e17
  have e18 : (pf5 25).toInt = (pf 25).toInt := e18
  have e19 : (pf5 26).toInt = (pf 26).toInt := e19
  have e20 : FrB (pf 13).toInt na ma na6 ma7 := e20
  have hfb := hfb.tr e20 (by omega)
  have e21 : FrW (pf 26).toInt wa wa8 := e21
  have hfw := hfw.tr e21 (by omega)
  have e22 : ExD ta (tf 6).toInt na6 ma7 v10 (pf 13).toInt (pf5 13).toInt (3 * (bp ta (pf5 11) - bp ta (pf 11))) (pf 12).toInt := e22
  have hxd_v10 := e22
  have hnx_v10 := hxd_v10.num
  have hw : pw D A s.heap H locs [wdP cs h r g tf ta pf5 na6 ma7 wa8 cf ca ef ea xf xa] := hw
  have lv10 := Int32.le_toInt v10
  have uv10 := Int32.toInt_lt v10
  refine lv_istore_n (lv' := [(2, .int v10), (1, .int (pf 11)), (0, .ref h)]) S.x S.b d_Mpg_conditional_9 rfl hl (by decide) rfl (fun ls hl => ?_)
  refine lv_aload_n S.x S.b d_Mpg_conditional_10 rfl (lv_at hl 2 rfl) ?_
  obtain ⟨sk23, hRsk23, st24, sb25, hSsk23⟩ := oP_lit hP (k := 105) (tx := "?") (n := 1) (List.mem_of_getElem? (i := 44) rfl)
  refine va_ldcS S.x S.b S.own hRsk23 d_Mpg_conditional_11 ?_
  refine px_calli (pr := []) (px_runV (As := [.ref sk23]) (rest := []) S (c_mp_is l D cs sk23 1 h r g tf ta pf5 na6 ma7 wa8 cf ca ef ea xf xa   (show 0 ≤ (pf5 11).toInt from by omega) (show (pf5 11).toInt < (tf 6).toInt from by omega) (show (tf 6).toInt ≤ 2049 from by omega) (show 1 ≤ 100 from by omega) htk _) hT (pr := []) (pcs := [wdP cs h r g tf ta pf5 na6 ma7 wa8 cf ca ef ea xf xa]) hw (oX_call (P := (fun A U H => (oP A g U H) ∧ (StS A sk23 1 U H))) (pr := []) (oG_and oG_P oG_Q) hw hA ⟨hP, ⟨_, _, hSsk23⟩⟩) (px_recv hT hw 0 0 rfl rfl rfl) m11_217 m11_214 m11_216 ms_8_14 m1_21 q_Mpg_is ⟨show 3 + 1 ≤ (8 * lv + 19) from by omega, show 8 + (2 + 11) + 120 ≤ (220 * lv + 690) from by omega⟩ hl.1 rfl (Nat.le_of_ble_eq_true rfl) d_Mpg_conditional_13 ⟨Nat.le_of_ble_eq_true rfl, Nat.le_of_ble_eq_true rfl⟩) hw hA (fun v27 p26 H locs hp26 hw => ?_)
  obtain ⟨rfl, e28, e29⟩ := hp26
  have e28 := z_rng e28
  have e29 : v27.toInt = 1 → (pf5 11).toInt + 1 < (tf 6).toInt ∧ so ta (pf5 11) = 5 := e29
  have hw : pw D A s.heap H locs [wdP cs h r g tf ta pf5 na6 ma7 wa8 cf ca ef ea xf xa] := hw
  have lv27 := Int32.le_toInt v27
  have uv27 := Int32.toInt_lt v27
  refine lv_if_ne (tgt := 21) S.x S.b d_Mpg_conditional_16 (by decide) (fun c30 => ?_) (fun c30 => ?_)
  · have nc30 : ¬ v27.toInt = (0 : Int) := mt (i_eq (x := v27) (y := 0)).mpr c30
    refine lv_aload_n S.x S.b d_Mpg_conditional_21 rfl (lv_at hl 2 rfl) ?_
    refine px_get S k_Mpg hT hw 0 0 11 (v := .int (pf5 11)) rfl rfl rfl (by decide) m9_235 d_Mpg_conditional_22 ?_
    refine lv_istore_n (lv' := [(3, .int (pf5 11)), (2, .int v10), (1, .int (pf 11)), (0, .ref h)]) S.x S.b d_Mpg_conditional_25 rfl hl (by decide) rfl (fun ls hl => ?_)
    refine lv_aload_n S.x S.b d_Mpg_conditional_26 rfl (lv_at hl 3 rfl) ?_
    refine lv_iload_n S.x S.b d_Mpg_conditional_27 rfl (lv_at hl 1 rfl) ?_
    refine lv_if_ge (tgt := 37) S.x S.b d_Mpg_conditional_28 (by decide) (fun c31 => ?_) (fun c31 => ?_)
    · have nc31 : (0 : Int) ≤ v10.toInt := (i_le (x := 0) (y := v10)).mp c31
      refine lv_iload_n S.x S.b d_Mpg_conditional_37 rfl (lv_at hl 1 rfl) ?_
      have ht_v10 := hxd_v10.pos (by omega); have hn_ht_v10 := ht_v10.num
      refine th_callv (ps0 := [wdP cs h r g tf ta pf na ma wa cf ca ef ea xf xa]) (pr := []) (pcs := [wdP cs h r g tf ta pf5 na6 ma7 wa8 cf ca ef ea xf xa]) (As := [.int v10]) (rest := []) (c_mp_stands l D cs h r g tf ta pf5 na6 ma7 wa8 cf ca ef ea xf xa v10  (show 0 ≤ (pf5 11).toInt from by omega) (show (pf5 11).toInt < (tf 6).toInt from by omega) (show 0 ≤ v10.toInt from by omega) (show v10.toInt < 2100 from by omega) (show 0 ≤ dp na6 v10 from by omega) (show dp na6 v10 ≤ 1000 from by omega) (show 0 ≤ (pf5 12).toInt from by omega) (show (pf5 12).toInt ≤ 60 from by omega) hlf htk) S hT hw (oX_call (P := (fun A U H => (oN A U H) ∧ (oP A g U H))) (pr := []) (oG_and oG_N oG_P) hw hA ⟨hN, hP⟩) (px_recv hT hw 0 0 rfl rfl rfl) m12_46 m12_43 m12_45 ms_9_13 m1_21 q_Mpg_stands2 ⟨show 7 + 1 ≤ (8 * lv + 19) from by omega, show 8 + (2 + 11) + 150 ≤ (220 * lv + 690) from by omega⟩ hl.1 rfl (Nat.le_of_ble_eq_true rfl) d_Mpg_conditional_38 ⟨Nat.le_of_ble_eq_true rfl, Nat.le_of_ble_eq_true rfl⟩ hne hlk hA hAe (fun o t h => Or.inr h) ?_ (fun p32 H locs hp32 hw => ?_)
      · exact fun p1 H1 locs1 hp hw => by obtain ⟨pq1, pq2, pq3, pq4, rfl, hq1, hq2⟩ := hp; exact ⟨_, ⟨pq1, pq2, pq3, pq4, rfl, hq1, hq2⟩, hw⟩
      obtain ⟨rfl, e34⟩ := hp32
      have e34 : (pf5 12).toInt + dp na6 v10 < 60 := e34
      have hw : pw D A s.heap H locs [wdP cs h r g tf ta pf5 na6 ma7 wa8 cf ca ef ea xf xa] := hw
      refine lv_aload_n S.x S.b d_Mpg_conditional_41 rfl (lv_at hl 3 rfl) ?_
      refine th_callv (ps0 := [wdP cs h r g tf ta pf na ma wa cf ca ef ea xf xa]) (pr := []) (pcs := [wdP cs h r g tf ta pf5 na6 ma7 wa8 cf ca ef ea xf xa]) (As := []) (rest := []) (c_mp_opens l D cs h r g tf ta na6 ma7 wa8 cf ca ef ea xf xa pf5   (show 0 ≤ (pf5 11).toInt from by omega) (show (pf5 11).toInt < (tf 6).toInt from by omega) (show (tf 6).toInt ≤ 2049 from by omega) (show (pf5 11).toInt + 1 < (tf 6).toInt from by omega) (show 0 ≤ (pf5 12).toInt from by omega) (show (pf5 12).toInt ≤ 60 from by omega) hlf htk) S hT hw (oX_call (P := (fun A U H => (oN A U H) ∧ (oP A g U H))) (pr := []) (oG_and oG_N oG_P) hw hA ⟨hN, hP⟩) (px_recv hT hw 0 0 rfl rfl rfl) m11_238 m11_235 m11_237 ms_9_1 m1_21 q_Mpg_opens ⟨show 7 + 1 ≤ (8 * lv + 19) from by omega, show 8 + (1 + 11) + 150 ≤ (220 * lv + 690) from by omega⟩ hl.1 rfl (Nat.le_of_ble_eq_true rfl) d_Mpg_conditional_42 ⟨Nat.le_of_ble_eq_true rfl, Nat.le_of_ble_eq_true rfl⟩ hne hlk hA hAe (fun o t h => Or.inr h) ?_ (fun p37 H locs hp37 hw => ?_)
      · exact fun p1 H1 locs1 hp hw => by obtain ⟨pq1, pq2, pq3, pq4, rfl, hq1, hq2⟩ := hp; exact ⟨_, ⟨pq1, pq2, pq3, pq4, rfl, hq1, hq2⟩, hw⟩
      obtain ⟨pf36, rfl, e39, e40, e41, e42, e43, e44, e45, e46, e47, e48⟩ := hp37
      have e39 : (pf36 11).toInt = (pf5 11).toInt + 1 := e39
      have e40 : (pf36 11).toInt < (tf 6).toInt := e40
      have e41 : bp ta (pf5 11) + sz ta (pf5 11) ≤ bp ta (pf36 11) := e41
      have e42 : 1 ≤ sz ta (pf5 11) := e42
      have e43 : (pf36 12).toInt = (pf5 12).toInt + 1 := e43
      have e44 : (pf5 12).toInt < 60 := e44
      have e45 : (pf36 13).toInt = (pf5 13).toInt := e45
      have e46 : (pf36 24).toInt = (pf5 24).toInt := e46
      have e47 : (pf36 25).toInt = (pf5 25).toInt := e47
      have e48 : (pf36 26).toInt = (pf5 26).toInt := e48
      have hw : pw D A s.heap H locs [wdP cs h r g tf ta pf36 na6 ma7 wa8 cf ca ef ea xf xa] := hw
      refine lv_aload_n S.x S.b d_Mpg_conditional_45 rfl (lv_at hl 3 rfl) ?_
      refine th_calli (ps0 := [wdP cs h r g tf ta pf na ma wa cf ca ef ea xf xa]) (pr := []) (pcs := [wdP cs h r g tf ta pf36 na6 ma7 wa8 cf ca ef ea xf xa]) (As := []) (rest := []) ((hE.go (by omega)).1 h r g tf ta cf ca ef ea xf xa pf36 na6 ma7 wa8   (show 0 ≤ (pf36 11).toInt from by omega) (show (pf36 11).toInt < (tf 6).toInt from by omega) (show (tf 6).toInt ≤ 2049 from by omega) (show 0 ≤ (pf36 12).toInt from by omega) (show (pf36 12).toInt ≤ 60 from by omega) (show 0 ≤ (pf36 13).toInt from by omega) (show (pf36 13).toInt ≤ (pf36 11).toInt + 20 from by omega) (show 0 ≤ (pf36 26).toInt from by omega) (show (pf36 26).toInt ≤ (pf36 12).toInt from by omega) (show 61 ≤ (pf36 12).toInt + ((lv - 1 : Nat) : Int) from by omega) (show lv - 1 ≤ 61 from by omega) hlf htk) S hT hw (oX_call (P := (fun A U H => (oN A U H) ∧ (oP A g U H))) (pr := []) (oG_and oG_N oG_P) hw hA ⟨hN, hP⟩) (px_recv hT hw 0 0 rfl rfl rfl) m12_38 m12_35 m12_37 ms_9_11 m1_21 q_Mpg_expression ⟨show (8 * (lv - 1) + 20) + 1 ≤ (8 * lv + 19) from by omega, show 8 + (7 + 11) + (220 * (lv - 1) + 720) ≤ (220 * lv + 690) from by omega⟩ hl.1 rfl (Nat.le_of_ble_eq_true rfl) d_Mpg_conditional_46 ⟨Nat.le_of_ble_eq_true rfl, Nat.le_of_ble_eq_true rfl⟩ hne hlk hA hAe (fun o t h => Or.inr h) ?_ (fun v58 p57 H locs hp57 hw => ?_)
      · exact fun p1 H1 locs1 hp hw => by obtain ⟨pq1, pq2, pq3, pq4, rfl, hq1, hq2⟩ := hp; exact ⟨_, ⟨pq1, pq2, pq3, pq4, rfl, hq1, hq2⟩, hw⟩
      obtain ⟨pf53, na54, ma55, wa56, rfl, e59, e60, e61, e62, e63, e64, e65, e66, e67, e68, e69, e70⟩ := hp57
      have e59 : (pf36 11).toInt + 1 ≤ (pf53 11).toInt := e59
      have e60 : (pf53 11).toInt < (tf 6).toInt := e60
      have e61 : (pf36 13).toInt + 1 ≤ (pf53 13).toInt := e61
      have e62 : (pf53 13).toInt - (pf36 13).toInt ≤ (pf53 11).toInt - (pf36 11).toInt := e62
      have e63 : bp ta (pf36 11) + 1 ≤ bp ta (pf53 11) := e63
      have e64 : (pf53 12).toInt = (pf36 12).toInt := e64
      have e65 : (pf53 24).toInt = (pf36 24).toInt := e65
      have e66 : (pf53 25).toInt = (pf36 25).toInt := e66
      have e67 : (pf53 26).toInt = (pf36 26).toInt := e67
      have e68 : FrB (pf36 13).toInt na6 ma7 na54 ma55 := e68
      have ht_v10 := ht_v10.kp (FrB.le e68 (by omega)) (by omega)
      have hn_ht_v10 := ht_v10.num
      have hdq_v10 := dp_fb (x := v10) e68 (by omega) (by omega)
      have hxd_v10 := hxd_v10.kp (FrB.le e68 (by omega)) (by omega)
      have hfb := hfb.tr e68 (by omega)
      have e69 : FrW (pf36 26).toInt wa8 wa56 := e69
      have hfw := hfw.tr e69 (by omega)
      have e70 : ExR ta (tf 6).toInt na54 ma55 v58 (pf36 13).toInt (pf53 13).toInt (3 * (bp ta (pf53 11) - bp ta (pf36 11))) (pf36 12).toInt := e70
      have ht_v58 := e70
      have hn_ht_v58 := ht_v58.num
      have hw : pw D A s.heap H locs [wdP cs h r g tf ta pf53 na54 ma55 wa56 cf ca ef ea xf xa] := hw
      have lv58 := Int32.le_toInt v58
      have uv58 := Int32.toInt_lt v58
      refine lv_istore (lv' := [(4, .int v58), (3, .int (pf5 11)), (2, .int v10), (1, .int (pf 11)), (0, .ref h)]) S.x S.b d_Mpg_conditional_49 hl (by decide) rfl (fun ls hl => ?_)
      refine lv_aload_n S.x S.b d_Mpg_conditional_51 rfl (lv_at hl 4 rfl) ?_
      obtain ⟨sk71, hRsk71, st72, sb73, hSsk71⟩ := oP_lit hP (k := 103) (tx := ":") (n := 1) (List.mem_of_getElem? (i := 43) rfl)
      refine va_ldcS S.x S.b S.own hRsk71 d_Mpg_conditional_52 ?_
      refine th_callv (ps0 := [wdP cs h r g tf ta pf na ma wa cf ca ef ea xf xa]) (pr := []) (pcs := [wdP cs h r g tf ta pf53 na54 ma55 wa56 cf ca ef ea xf xa]) (As := [.ref sk71]) (rest := []) (c_mp_take l D cs sk71 1 h r g tf ta na54 ma55 wa56 cf ca ef ea xf xa pf53   (show 0 ≤ (pf53 11).toInt from by omega) (show (pf53 11).toInt < (tf 6).toInt from by omega) (show (tf 6).toInt ≤ 2049 from by omega) (show 1 ≤ 100 from by omega) hlf htk) S hT hw (oX_call (P := (fun A U H => (oN A U H) ∧ (oP A g U H) ∧ (StS A sk71 1 U H))) (pr := []) (oG_and oG_N (oG_and oG_P oG_Q)) hw hA ⟨hN, hP, ⟨_, _, hSsk71⟩⟩) (px_recv hT hw 0 0 rfl rfl rfl) m12_57 m12_54 m12_56 ms_9_15 m1_21 q_Mpg_take ⟨show 7 + 1 ≤ (8 * lv + 19) from by omega, show 8 + (2 + 11) + 230 ≤ (220 * lv + 690) from by omega⟩ hl.1 rfl (Nat.le_of_ble_eq_true rfl) d_Mpg_conditional_54 ⟨Nat.le_of_ble_eq_true rfl, Nat.le_of_ble_eq_true rfl⟩ hne hlk hA hAe (fun o t h => Or.inr h) ?_ (fun p76 H locs hp76 hw => ?_)
      · exact fun p1 H1 locs1 hp hw => by obtain ⟨pq1, pq2, pq3, pq4, rfl, hq1, hq2⟩ := hp; exact ⟨_, ⟨pq1, pq2, pq3, pq4, rfl, hq1, hq2⟩, hw⟩
      obtain ⟨pf75, rfl, e78, e79, e80, e81, e82, e83, e84, e85⟩ := hp76
      have e78 : (pf75 11).toInt = (pf53 11).toInt + 1 := e78
      have e79 : (pf75 11).toInt < (tf 6).toInt := e79
      have e80 : bp ta (pf53 11) + 1 ≤ bp ta (pf75 11) := e80
      have e81 : (pf75 12).toInt = (pf53 12).toInt := e81
      have e82 : (pf75 13).toInt = (pf53 13).toInt := e82
      have e83 : (pf75 24).toInt = (pf53 24).toInt := e83
      have e84 : (pf75 25).toInt = (pf53 25).toInt := e84
      have e85 : (pf75 26).toInt = (pf53 26).toInt := e85
      have hw : pw D A s.heap H locs [wdP cs h r g tf ta pf75 na54 ma55 wa56 cf ca ef ea xf xa] := hw
      refine lv_aload_n S.x S.b d_Mpg_conditional_57 rfl (lv_at hl 4 rfl) ?_
      refine th_calli (ps0 := [wdP cs h r g tf ta pf na ma wa cf ca ef ea xf xa]) (pr := []) (pcs := [wdP cs h r g tf ta pf75 na54 ma55 wa56 cf ca ef ea xf xa]) (As := []) (rest := []) ((hE.go (by omega)).2 h r g tf ta cf ca ef ea xf xa pf75 na54 ma55 wa56   (show 0 ≤ (pf75 11).toInt from by omega) (show (pf75 11).toInt < (tf 6).toInt from by omega) (show (tf 6).toInt ≤ 2049 from by omega) (show 0 ≤ (pf75 12).toInt from by omega) (show (pf75 12).toInt ≤ 60 from by omega) (show 0 ≤ (pf75 13).toInt from by omega) (show (pf75 13).toInt ≤ (pf75 11).toInt + 20 from by omega) (show 0 ≤ (pf75 26).toInt from by omega) (show (pf75 26).toInt ≤ (pf75 12).toInt from by omega) (show 61 ≤ (pf75 12).toInt + ((lv - 1 : Nat) : Int) from by omega) (show lv - 1 ≤ 61 from by omega) hlf htk) S hT hw (oX_call (P := (fun A U H => (oN A U H) ∧ (oP A g U H))) (pr := []) (oG_and oG_N oG_P) hw hA ⟨hN, hP⟩) (px_recv hT hw 0 0 rfl rfl rfl) m12_14 m12_11 m12_13 ms_9_5 m1_21 q_Mpg_conditional ⟨show (8 * (lv - 1) + 19) + 1 ≤ (8 * lv + 19) from by omega, show 8 + (7 + 11) + (220 * (lv - 1) + 690) ≤ (220 * lv + 690) from by omega⟩ hl.1 rfl (Nat.le_of_ble_eq_true rfl) d_Mpg_conditional_58 ⟨Nat.le_of_ble_eq_true rfl, Nat.le_of_ble_eq_true rfl⟩ hne hlk hA hAe (fun o t h => Or.inr h) ?_ (fun v95 p94 H locs hp94 hw => ?_)
      · exact fun p1 H1 locs1 hp hw => by obtain ⟨pq1, pq2, pq3, pq4, rfl, hq1, hq2⟩ := hp; exact ⟨_, ⟨pq1, pq2, pq3, pq4, rfl, hq1, hq2⟩, hw⟩
      obtain ⟨pf90, na91, ma92, wa93, rfl, e96, e97, e98, e99, e100, e101, e102, e103, e104, e105, e106, e107⟩ := hp94
      have e96 : (pf75 11).toInt + 1 ≤ (pf90 11).toInt := e96
      have e97 : (pf90 11).toInt < (tf 6).toInt := e97
      have e98 : (pf75 13).toInt + 1 ≤ (pf90 13).toInt := e98
      have e99 : (pf90 13).toInt - (pf75 13).toInt ≤ (pf90 11).toInt - (pf75 11).toInt := e99
      have e100 : bp ta (pf75 11) + 1 ≤ bp ta (pf90 11) := e100
      have e101 : (pf90 12).toInt = (pf75 12).toInt := e101
      have e102 : (pf90 24).toInt = (pf75 24).toInt := e102
      have e103 : (pf90 25).toInt = (pf75 25).toInt := e103
      have e104 : (pf90 26).toInt = (pf75 26).toInt := e104
      have e105 : FrB (pf75 13).toInt na54 ma55 na91 ma92 := e105
      have ht_v10 := ht_v10.kp (FrB.le e105 (by omega)) (by omega)
      have hn_ht_v10 := ht_v10.num
      have hdq_v10 := dp_fb (x := v10) e105 (by omega) (by omega)
      have ht_v58 := ht_v58.kp (FrB.le e105 (by omega)) (by omega)
      have hn_ht_v58 := ht_v58.num
      have hdq_v58 := dp_fb (x := v58) e105 (by omega) (by omega)
      have hxd_v10 := hxd_v10.kp (FrB.le e105 (by omega)) (by omega)
      have hfb := hfb.tr e105 (by omega)
      have e106 : FrW (pf75 26).toInt wa56 wa93 := e106
      have hfw := hfw.tr e106 (by omega)
      have e107 : ExD ta (tf 6).toInt na91 ma92 v95 (pf75 13).toInt (pf90 13).toInt (3 * (bp ta (pf90 11) - bp ta (pf75 11))) (pf75 12).toInt := e107
      have hxd_v95 := e107
      have hnx_v95 := hxd_v95.num
      have hw : pw D A s.heap H locs [wdP cs h r g tf ta pf90 na91 ma92 wa93 cf ca ef ea xf xa] := hw
      have lv95 := Int32.le_toInt v95
      have uv95 := Int32.toInt_lt v95
      refine lv_istore (lv' := [(5, .int v95), (4, .int v58), (3, .int (pf5 11)), (2, .int v10), (1, .int (pf 11)), (0, .ref h)]) S.x S.b d_Mpg_conditional_61 hl (by decide) rfl (fun ls hl => ?_)
      refine lv_aload_n S.x S.b d_Mpg_conditional_63 rfl (lv_at hl 5 rfl) ?_
      refine lv_dup S.x S.b d_Mpg_conditional_64 rfl ?_
      refine px_get S k_Mpg hT hw 0 0 12 (v := .int (pf90 12)) rfl rfl rfl (by decide) m9_236 d_Mpg_conditional_65 ?_
      refine lv_iconst (v := 1) S.x S.b d_Mpg_conditional_68 (by decide) ?_
      refine lv_isub S.x S.b d_Mpg_conditional_69 ?_
      have lr108 := Int32.le_toInt (pf90 12)
      have ur108 := Int32.toInt_lt (pf90 12)
      refine lv_topi (fun z109 ez109 => ?_)
      have tz109 : z109.toInt = ((pf90 12).toInt - (1 : Int) + 2147483648) % 4294967296 - 2147483648 := by rw [ez109]; exact i_sub (pf90 12) 1
      have lz109 := Int32.le_toInt z109
      have uz109 := Int32.toInt_lt z109
      try replace tz109 : z109.toInt = (pf90 12).toInt - (1 : Int) := by omega
      refine px_put S k_Mpg hT hw 0 0 12 rfl rfl (by decide) m9_236 rfl rfl rfl (Nat.le_of_ble_eq_true rfl) d_Mpg_conditional_70 (w' := wdP cs h r g tf ta (upd pf90 12 z109) na91 ma92 wa93 cf ca ef ea xf xa) (ps' := [wdP cs h r g tf ta (upd pf90 12 z109) na91 ma92 wa93 cf ca ef ea xf xa]) rfl rfl (fun H locs hw => ?_)
      refine lv_aload_n S.x S.b d_Mpg_conditional_73 rfl (lv_at hl 5 rfl) ?_
      refine lv_bipush (v := 8) S.x S.b d_Mpg_conditional_74 (by decide) ?_
      refine lv_iload_n S.x S.b d_Mpg_conditional_76 rfl (lv_at hl 2 rfl) ?_
      refine px_calli (pr := []) (px_runV (As := [.int 8, .int (pf5 11)]) (rest := []) S (c_mp_make l D cs h r g tf ta wa93 cf ca ef ea xf xa (upd pf90 12 z109) na91 ma92 8 (pf5 11)  (show 0 ≤ (pf90 13).toInt from by omega) (show (pf90 13).toInt < 2100 from by omega) _) hT (pr := []) (pcs := [wdP cs h r g tf ta (upd pf90 12 z109) na91 ma92 wa93 cf ca ef ea xf xa]) hw px_X.tt (px_recv hT hw 0 0 rfl rfl rfl) m11_209 m11_206 m11_208 ms_8_12 m1_21 q_Mpg_make ⟨show 0 + 1 ≤ (8 * lv + 19) from by omega, show 8 + (3 + 11) + 0 ≤ (220 * lv + 690) from by omega⟩ hl.1 rfl (Nat.le_of_ble_eq_true rfl) d_Mpg_conditional_77 ⟨Nat.le_of_ble_eq_true rfl, Nat.le_of_ble_eq_true rfl⟩) hw hA (fun v117 p116 H locs hp116 hw => ?_)
      obtain ⟨pf113, na114, ma115, rfl, e118, e119, e120, e121, e122, e123, e124, e125⟩ := hp116
      have e118 : v117.toInt = (pf90 13).toInt := e118
      have e119 : (pf113 13).toInt = (pf90 13).toInt + 1 := e119
      have e120 : (pf113 11).toInt = (pf90 11).toInt := e120
      have e121 : (pf113 12).toInt = z109.toInt := e121
      have e122 : (pf113 24).toInt = (pf90 24).toInt := e122
      have e123 : (pf113 25).toInt = (pf90 25).toInt := e123
      have e124 : (pf113 26).toInt = (pf90 26).toInt := e124
      have e125 : MkN na91 ma92 na114 ma115 v117 (8 : Int32) (pf5 11) := e125
      obtain ⟨qb1261, qb1262, qb1263, qb1264⟩ := tk_eq (ta := ta) (x := (pf113 11)) (y := (pf90 11)) (by omega)
      have hmk_v117 := e125
      have hfm_v117 := MkN.frb (b := v117.toInt) hmk_v117 (by omega) (by omega)
      have ht_v10 := ht_v10.kp (FrB.le hfm_v117 (by omega)) (by omega)
      have hn_ht_v10 := ht_v10.num
      have hdq_v10 := dp_fb (x := v10) hfm_v117 (by omega) (by omega)
      have ht_v58 := ht_v58.kp (FrB.le hfm_v117 (by omega)) (by omega)
      have hn_ht_v58 := ht_v58.num
      have hdq_v58 := dp_fb (x := v58) hfm_v117 (by omega) (by omega)
      have hxd_v10 := hxd_v10.kp (FrB.le hfm_v117 (by omega)) (by omega)
      have hxd_v95 := hxd_v95.kp (FrB.le hfm_v117 (by omega)) (by omega)
      have hfb := hfb.tr hfm_v117 (by omega)
      have hnk_v117 := hmk_v117.nk (by decide) (by decide) (by omega)
      have hdn_v117 := dp_nk hmk_v117
      have hw : pw D A s.heap H locs [wdP cs h r g tf ta pf113 na114 ma115 wa93 cf ca ef ea xf xa] := hw
      have lv117 := Int32.le_toInt v117
      have uv117 := Int32.toInt_lt v117
      refine lv_istore (lv' := [(6, .int v117), (5, .int v95), (4, .int v58), (3, .int (pf5 11)), (2, .int v10), (1, .int (pf 11)), (0, .ref h)]) S.x S.b d_Mpg_conditional_80 hl (by decide) rfl (fun ls hl => ?_)
      refine lv_aload_n S.x S.b d_Mpg_conditional_82 rfl (lv_at hl 6 rfl) ?_
      refine px_get S k_Mpg hT hw 0 0 23 (v := .ref (r 23)) rfl rfl rfl (by decide) m10_11 d_Mpg_conditional_83 ?_
      refine lv_iload S.x S.b d_Mpg_conditional_86 (lv_at hl 0 rfl) ?_
      refine lv_iconst (v := 1) S.x S.b d_Mpg_conditional_88 (by decide) ?_
      refine lv_aload_n S.x S.b d_Mpg_conditional_89 rfl (lv_at hl 6 rfl) ?_
      refine px_get S k_Mpg hT hw 0 0 23 (v := .ref (r 23)) rfl rfl rfl (by decide) m10_11 d_Mpg_conditional_90 ?_
      refine lv_iload_n S.x S.b d_Mpg_conditional_93 rfl (lv_at hl 4 rfl) ?_
      refine lv_if_ge (tgt := 103) S.x S.b d_Mpg_conditional_94 (by decide) (fun c127 => ?_) (fun c127 => ?_)
      · have nc127 : (0 : Int) ≤ v10.toInt := (i_le (x := 0) (y := v10)).mp c127
        refine lv_iload_n S.x S.b d_Mpg_conditional_103 rfl (lv_at hl 4 rfl) ?_
        refine px_iald S hT hw 0 19 (n := 2100) (f := (na114 23)) rfl gp_23 (x := v10) (vp_in_iff.mpr (by constructor <;> omega)) d_Mpg_conditional_104 ?_
        refine lv_topi (fun z128 ez128 => ?_)
        have lz128 := Int32.le_toInt z128
        have uz128 := Int32.toInt_lt z128
        have rz128 : z128.toInt = dp na114 v10 := by rw [ez128]; rfl
        refine lv_aload_n S.x S.b d_Mpg_conditional_105 rfl (lv_at hl 6 rfl) ?_
        refine px_get S k_Mpg hT hw 0 0 23 (v := .ref (r 23)) rfl rfl rfl (by decide) m10_11 d_Mpg_conditional_106 ?_
        refine lv_iload S.x S.b d_Mpg_conditional_109 (lv_at hl 2 rfl) ?_
        refine px_iald S hT hw 0 19 (n := 2100) (f := (na114 23)) rfl gp_23 (x := v58) (vp_in_iff.mpr (by constructor <;> omega)) d_Mpg_conditional_111 ?_
        refine lv_topi (fun z129 ez129 => ?_)
        have lz129 := Int32.le_toInt z129
        have uz129 := Int32.toInt_lt z129
        have rz129 : z129.toInt = dp na114 v58 := by rw [ez129]; rfl
        refine lv_aload_n S.x S.b d_Mpg_conditional_112 rfl (lv_at hl 6 rfl) ?_
        refine px_get S k_Mpg hT hw 0 0 23 (v := .ref (r 23)) rfl rfl rfl (by decide) m10_11 d_Mpg_conditional_113 ?_
        refine lv_iload S.x S.b d_Mpg_conditional_116 (lv_at hl 1 rfl) ?_
        refine lv_if_ge (tgt := 128) S.x S.b d_Mpg_conditional_118 (by decide) (fun c130 => ?_) (fun c130 => ?_)
        · have nc130 : (0 : Int) ≤ v95.toInt := (i_le (x := 0) (y := v95)).mp c130
          refine lv_iload S.x S.b d_Mpg_conditional_128 (lv_at hl 1 rfl) ?_
          have ht_v95 := hxd_v95.pos (by omega); have hn_ht_v95 := ht_v95.num
          refine px_iald S hT hw 0 19 (n := 2100) (f := (na114 23)) rfl gp_23 (x := v95) (vp_in_iff.mpr (by constructor <;> omega)) d_Mpg_conditional_130 ?_
          refine lv_topi (fun z131 ez131 => ?_)
          have lz131 := Int32.le_toInt z131
          have uz131 := Int32.toInt_lt z131
          have rz131 : z131.toInt = dp na114 v95 := by rw [ez131]; rfl
          refine px_calli (pr := [wdP cs h r g tf ta pf113 na114 ma115 wa93 cf ca ef ea xf xa]) (px_runS (As := [.int z129, .int z131]) (rest := [.int z128, .int 1, .int v117, .ref (r 23)]) S (c_mp_deeper l D cs  z129 z131   _) hT (pr := [wdP cs h r g tf ta pf113 na114 ma115 wa93 cf ca ef ea xf xa]) (pcs := []) hw px_X.tt m12_49 m12_47 m12_48 m1_21 q_Mpg_deeper ⟨show 0 + 1 ≤ (8 * lv + 19) from by omega, show 8 + (2 + 11) + 0 ≤ (220 * lv + 690) from by omega⟩ hl.1 rfl (Nat.le_of_ble_eq_true rfl) d_Mpg_conditional_131 ⟨Nat.le_of_ble_eq_true rfl, Nat.le_of_ble_eq_true rfl⟩) hw hA (fun v133 p132 H locs hp132 hw => ?_)
          obtain ⟨rfl, e134, e135, e136⟩ := hp132
          have e134 : z129.toInt ≤ v133.toInt := e134
          have e135 : z131.toInt ≤ v133.toInt := e135
          have e136 : v133.toInt = z129.toInt ∨ v133.toInt = z131.toInt := e136
          have hw : pw D A s.heap H locs [wdP cs h r g tf ta pf113 na114 ma115 wa93 cf ca ef ea xf xa] := hw
          have lv133 := Int32.le_toInt v133
          have uv133 := Int32.toInt_lt v133
          refine px_calli (pr := [wdP cs h r g tf ta pf113 na114 ma115 wa93 cf ca ef ea xf xa]) (px_runS (As := [.int z128, .int v133]) (rest := [.int 1, .int v117, .ref (r 23)]) S (c_mp_deeper l D cs  z128 v133   _) hT (pr := [wdP cs h r g tf ta pf113 na114 ma115 wa93 cf ca ef ea xf xa]) (pcs := []) hw px_X.tt m12_49 m12_47 m12_48 m1_21 q_Mpg_deeper ⟨show 0 + 1 ≤ (8 * lv + 19) from by omega, show 8 + (2 + 11) + 0 ≤ (220 * lv + 690) from by omega⟩ hl.1 rfl (Nat.le_of_ble_eq_true rfl) d_Mpg_conditional_134 ⟨Nat.le_of_ble_eq_true rfl, Nat.le_of_ble_eq_true rfl⟩) hw hA (fun v138 p137 H locs hp137 hw => ?_)
          obtain ⟨rfl, e139, e140, e141⟩ := hp137
          have e139 : z128.toInt ≤ v138.toInt := e139
          have e140 : v133.toInt ≤ v138.toInt := e140
          have e141 : v138.toInt = z128.toInt ∨ v138.toInt = v133.toInt := e141
          have hw : pw D A s.heap H locs [wdP cs h r g tf ta pf113 na114 ma115 wa93 cf ca ef ea xf xa] := hw
          have lv138 := Int32.le_toInt v138
          have uv138 := Int32.toInt_lt v138
          refine lv_iadd S.x S.b d_Mpg_conditional_137 ?_
          refine lv_topi (fun z142 ez142 => ?_)
          have tz142 : z142.toInt = ((1 : Int) + v138.toInt + 2147483648) % 4294967296 - 2147483648 := by rw [ez142]; exact i_add 1 v138
          have lz142 := Int32.le_toInt z142
          have uz142 := Int32.toInt_lt z142
          try replace tz142 : z142.toInt = (1 : Int) + v138.toInt := by omega
          refine px_iast S hT hw 0 19 (n := 2100) (f := (na114 23)) (x := v117) (y := z142) rfl gp_23 (vp_in_iff.mpr (by constructor <;> omega)) d_Mpg_conditional_138 (w' := wdP cs h r g tf ta pf113 (va_up na114 23 (upd (na114 23) v117.toNatClampNeg z142)) ma115 wa93 cf ca ef ea xf xa) (ps' := [wdP cs h r g tf ta pf113 (va_up na114 23 (upd (na114 23) v117.toNatClampNeg z142)) ma115 wa93 cf ca ef ea xf xa]) sp_23 rfl (fun H locs hw => ?_)
          refine lv_aload_n S.x S.b d_Mpg_conditional_139 rfl (lv_at hl 6 rfl) ?_
          refine px_get S k_Mpg hT hw 0 0 16 (v := .ref (r 16)) rfl rfl rfl (by decide) m10_0 d_Mpg_conditional_140 ?_
          refine lv_iload S.x S.b d_Mpg_conditional_143 (lv_at hl 0 rfl) ?_
          refine lv_iload_n S.x S.b d_Mpg_conditional_145 rfl (lv_at hl 5 rfl) ?_
          refine px_iast S hT hw 0 12 (n := 2100) (f := ((va_up na114 23 (upd (na114 23) v117.toNatClampNeg z142)) 16)) (x := v117) (y := (pf 11)) rfl gp_16 (vp_in_iff.mpr (by constructor <;> omega)) d_Mpg_conditional_146 (w' := wdP cs h r g tf ta pf113 (va_up (va_up na114 23 (upd (na114 23) v117.toNatClampNeg z142)) 16 (upd ((va_up na114 23 (upd (na114 23) v117.toNatClampNeg z142)) 16) v117.toNatClampNeg (pf 11))) ma115 wa93 cf ca ef ea xf xa) (ps' := [wdP cs h r g tf ta pf113 (va_up (va_up na114 23 (upd (na114 23) v117.toNatClampNeg z142)) 16 (upd ((va_up na114 23 (upd (na114 23) v117.toNatClampNeg z142)) 16) v117.toNatClampNeg (pf 11))) ma115 wa93 cf ca ef ea xf xa]) sp_16 rfl (fun H locs hw => ?_)
          refine lv_aload_n S.x S.b d_Mpg_conditional_147 rfl (lv_at hl 6 rfl) ?_
          refine px_get S k_Mpg hT hw 0 0 17 (v := .ref (r 17)) rfl rfl rfl (by decide) m10_1 d_Mpg_conditional_148 ?_
          refine lv_iload S.x S.b d_Mpg_conditional_151 (lv_at hl 0 rfl) ?_
          refine lv_iload_n S.x S.b d_Mpg_conditional_153 rfl (lv_at hl 4 rfl) ?_
          refine lv_if_ge (tgt := 163) S.x S.b d_Mpg_conditional_154 (by decide) (fun c143 => ?_) (fun c143 => ?_)
          · have nc143 : (0 : Int) ≤ v10.toInt := (i_le (x := 0) (y := v10)).mp c143
            refine lv_iload_n S.x S.b d_Mpg_conditional_163 rfl (lv_at hl 4 rfl) ?_
            refine px_iast S hT hw 0 13 (n := 2100) (f := ((va_up (va_up na114 23 (upd (na114 23) v117.toNatClampNeg z142)) 16 (upd ((va_up na114 23 (upd (na114 23) v117.toNatClampNeg z142)) 16) v117.toNatClampNeg (pf 11))) 17)) (x := v117) (y := v10) rfl gp_17 (vp_in_iff.mpr (by constructor <;> omega)) d_Mpg_conditional_164 (w' := wdP cs h r g tf ta pf113 (va_up (va_up (va_up na114 23 (upd (na114 23) v117.toNatClampNeg z142)) 16 (upd ((va_up na114 23 (upd (na114 23) v117.toNatClampNeg z142)) 16) v117.toNatClampNeg (pf 11))) 17 (upd ((va_up (va_up na114 23 (upd (na114 23) v117.toNatClampNeg z142)) 16 (upd ((va_up na114 23 (upd (na114 23) v117.toNatClampNeg z142)) 16) v117.toNatClampNeg (pf 11))) 17) v117.toNatClampNeg v10)) ma115 wa93 cf ca ef ea xf xa) (ps' := [wdP cs h r g tf ta pf113 (va_up (va_up (va_up na114 23 (upd (na114 23) v117.toNatClampNeg z142)) 16 (upd ((va_up na114 23 (upd (na114 23) v117.toNatClampNeg z142)) 16) v117.toNatClampNeg (pf 11))) 17 (upd ((va_up (va_up na114 23 (upd (na114 23) v117.toNatClampNeg z142)) 16 (upd ((va_up na114 23 (upd (na114 23) v117.toNatClampNeg z142)) 16) v117.toNatClampNeg (pf 11))) 17) v117.toNatClampNeg v10)) ma115 wa93 cf ca ef ea xf xa]) sp_17 rfl (fun H locs hw => ?_)
            refine lv_aload_n S.x S.b d_Mpg_conditional_165 rfl (lv_at hl 6 rfl) ?_
            refine px_get S k_Mpg hT hw 0 0 18 (v := .ref (r 18)) rfl rfl rfl (by decide) m10_3 d_Mpg_conditional_166 ?_
            refine lv_iload S.x S.b d_Mpg_conditional_169 (lv_at hl 0 rfl) ?_
            refine lv_iload S.x S.b d_Mpg_conditional_171 (lv_at hl 2 rfl) ?_
            refine px_iast S hT hw 0 14 (n := 2100) (f := (ma115 18)) (x := v117) (y := v58) rfl gp_18 (vp_in_iff.mpr (by constructor <;> omega)) d_Mpg_conditional_173 (w' := wdP cs h r g tf ta pf113 (va_up (va_up (va_up na114 23 (upd (na114 23) v117.toNatClampNeg z142)) 16 (upd ((va_up na114 23 (upd (na114 23) v117.toNatClampNeg z142)) 16) v117.toNatClampNeg (pf 11))) 17 (upd ((va_up (va_up na114 23 (upd (na114 23) v117.toNatClampNeg z142)) 16 (upd ((va_up na114 23 (upd (na114 23) v117.toNatClampNeg z142)) 16) v117.toNatClampNeg (pf 11))) 17) v117.toNatClampNeg v10)) (va_up ma115 18 (upd (ma115 18) v117.toNatClampNeg v58)) wa93 cf ca ef ea xf xa) (ps' := [wdP cs h r g tf ta pf113 (va_up (va_up (va_up na114 23 (upd (na114 23) v117.toNatClampNeg z142)) 16 (upd ((va_up na114 23 (upd (na114 23) v117.toNatClampNeg z142)) 16) v117.toNatClampNeg (pf 11))) 17 (upd ((va_up (va_up na114 23 (upd (na114 23) v117.toNatClampNeg z142)) 16 (upd ((va_up na114 23 (upd (na114 23) v117.toNatClampNeg z142)) 16) v117.toNatClampNeg (pf 11))) 17) v117.toNatClampNeg v10)) (va_up ma115 18 (upd (ma115 18) v117.toNatClampNeg v58)) wa93 cf ca ef ea xf xa]) sp_18 rfl (fun H locs hw => ?_)
            refine lv_aload_n S.x S.b d_Mpg_conditional_174 rfl (lv_at hl 6 rfl) ?_
            refine px_get S k_Mpg hT hw 0 0 19 (v := .ref (r 19)) rfl rfl rfl (by decide) m10_5 d_Mpg_conditional_175 ?_
            refine lv_iload S.x S.b d_Mpg_conditional_178 (lv_at hl 0 rfl) ?_
            refine lv_iload S.x S.b d_Mpg_conditional_180 (lv_at hl 1 rfl) ?_
            refine lv_if_ge (tgt := 192) S.x S.b d_Mpg_conditional_182 (by decide) (fun c144 => ?_) (fun c144 => ?_)
            · have nc144 : (0 : Int) ≤ v95.toInt := (i_le (x := 0) (y := v95)).mp c144
              refine lv_iload S.x S.b d_Mpg_conditional_192 (lv_at hl 1 rfl) ?_
              refine px_iast S hT hw 0 15 (n := 2100) (f := ((va_up ma115 18 (upd (ma115 18) v117.toNatClampNeg v58)) 19)) (x := v117) (y := v95) rfl gp_19 (vp_in_iff.mpr (by constructor <;> omega)) d_Mpg_conditional_194 (w' := wdP cs h r g tf ta pf113 (va_up (va_up (va_up na114 23 (upd (na114 23) v117.toNatClampNeg z142)) 16 (upd ((va_up na114 23 (upd (na114 23) v117.toNatClampNeg z142)) 16) v117.toNatClampNeg (pf 11))) 17 (upd ((va_up (va_up na114 23 (upd (na114 23) v117.toNatClampNeg z142)) 16 (upd ((va_up na114 23 (upd (na114 23) v117.toNatClampNeg z142)) 16) v117.toNatClampNeg (pf 11))) 17) v117.toNatClampNeg v10)) (va_up (va_up ma115 18 (upd (ma115 18) v117.toNatClampNeg v58)) 19 (upd ((va_up ma115 18 (upd (ma115 18) v117.toNatClampNeg v58)) 19) v117.toNatClampNeg v95)) wa93 cf ca ef ea xf xa) (ps' := [wdP cs h r g tf ta pf113 (va_up (va_up (va_up na114 23 (upd (na114 23) v117.toNatClampNeg z142)) 16 (upd ((va_up na114 23 (upd (na114 23) v117.toNatClampNeg z142)) 16) v117.toNatClampNeg (pf 11))) 17 (upd ((va_up (va_up na114 23 (upd (na114 23) v117.toNatClampNeg z142)) 16 (upd ((va_up na114 23 (upd (na114 23) v117.toNatClampNeg z142)) 16) v117.toNatClampNeg (pf 11))) 17) v117.toNatClampNeg v10)) (va_up (va_up ma115 18 (upd (ma115 18) v117.toNatClampNeg v58)) 19 (upd ((va_up ma115 18 (upd (ma115 18) v117.toNatClampNeg v58)) 19) v117.toNatClampNeg v95)) wa93 cf ca ef ea xf xa]) sp_19 rfl (fun H locs hw => ?_)
              refine lv_iload S.x S.b d_Mpg_conditional_195 (lv_at hl 0 rfl) ?_
              exact th_iret (v := v117) S hr rfl hlk hAe hw (⟨pf113, (va_up (va_up (va_up na114 23 (upd (na114 23) v117.toNatClampNeg z142)) 16 (upd ((va_up na114 23 (upd (na114 23) v117.toNatClampNeg z142)) 16) v117.toNatClampNeg (pf 11))) 17 (upd ((va_up (va_up na114 23 (upd (na114 23) v117.toNatClampNeg z142)) 16 (upd ((va_up na114 23 (upd (na114 23) v117.toNatClampNeg z142)) 16) v117.toNatClampNeg (pf 11))) 17) v117.toNatClampNeg v10)), (va_up (va_up ma115 18 (upd (ma115 18) v117.toNatClampNeg v58)) 19 (upd ((va_up ma115 18 (upd (ma115 18) v117.toNatClampNeg v58)) 19) v117.toNatClampNeg v95)), wa93, rfl, (show (pf 11).toInt + 1 ≤ (pf113 11).toInt from by omega), (show (pf113 11).toInt < (tf 6).toInt from by omega), (show (pf 13).toInt + 1 ≤ (pf113 13).toInt from by omega), (show (pf113 13).toInt - (pf 13).toInt ≤ (pf113 11).toInt - (pf 11).toInt from by omega), (show bp ta (pf 11) + 1 ≤ bp ta (pf113 11) from by omega), (show (pf113 12).toInt = (pf 12).toInt from by omega), (show (pf113 24).toInt = (pf 24).toInt from by omega), (show (pf113 25).toInt = (pf 25).toInt from by omega), (show (pf113 26).toInt = (pf 26).toInt from by omega), (show FrB (pf 13).toInt na ma (va_up (va_up (va_up na114 23 (upd (na114 23) v117.toNatClampNeg z142)) 16 (upd ((va_up na114 23 (upd (na114 23) v117.toNatClampNeg z142)) 16) v117.toNatClampNeg (pf 11))) 17 (upd ((va_up (va_up na114 23 (upd (na114 23) v117.toNatClampNeg z142)) 16 (upd ((va_up na114 23 (upd (na114 23) v117.toNatClampNeg z142)) 16) v117.toNatClampNeg (pf 11))) 17) v117.toNatClampNeg v10)) (va_up (va_up ma115 18 (upd (ma115 18) v117.toNatClampNeg v58)) 19 (upd ((va_up ma115 18 (upd (ma115 18) v117.toNatClampNeg v58)) 19) v117.toNatClampNeg v95)) from (FrB.um (FrB.um (FrB.un (FrB.un (FrB.un hfb (by omega) (by omega)) (by omega) (by omega)) (by omega) (by omega)) (by omega) (by omega)) (by omega) (by omega))), (show FrW (pf 26).toInt wa wa93 from hfw), (show ExD ta (tf 6).toInt (va_up (va_up (va_up na114 23 (upd (na114 23) v117.toNatClampNeg z142)) 16 (upd ((va_up na114 23 (upd (na114 23) v117.toNatClampNeg z142)) 16) v117.toNatClampNeg (pf 11))) 17 (upd ((va_up (va_up na114 23 (upd (na114 23) v117.toNatClampNeg z142)) 16 (upd ((va_up na114 23 (upd (na114 23) v117.toNatClampNeg z142)) 16) v117.toNatClampNeg (pf 11))) 17) v117.toNatClampNeg v10)) (va_up (va_up ma115 18 (upd (ma115 18) v117.toNatClampNeg v58)) 19 (upd ((va_up ma115 18 (upd (ma115 18) v117.toNatClampNeg v58)) 19) v117.toNatClampNeg v95)) v117 (pf 13).toInt (pf113 13).toInt (3 * (bp ta (pf113 11) - bp ta (pf 11))) (pf 12).toInt from (exd_of (ExR.le (exr_cond (ExR.le ht_v10 (Int.le_refl _) (by omega) (Int.le_refl _) (Int.le_refl _)) (ExR.le ht_v58 (Int.le_refl _) (by omega) (Int.le_refl _) (by omega)) ht_v95 (by omega) (by omega) (fun x hx => ⟨fun j => by rw [up_far hx, up_far hx, up_far hx], fun j => by rw [up_far hx, up_far hx]⟩) (by rw [va_up_n (by decide), va_up_n (by decide), va_up_n (by decide), hnk_v117.1]; rfl) (ndt_of (by rw [va_up_n (by decide), va_up_n (by decide), va_up_n (by decide), hnk_v117.2.1]) (by omega) (by omega) (by omega)) (by rw [va_up_s, pk_us]) (by rw [va_up_n (by decide), va_up_s, pk_us]) (by rw [va_up_s, pk_us]) (by rw [dp_un (by decide), dp_un (by decide), dp_us]; refine ⟨?_, ?_, ?_⟩ <;> omega) (by rw [dp_un (by decide), dp_un (by decide), dp_us]; omega) ⟨(by rw [va_up_n (by decide), va_up_n (by decide), va_up_n (by decide), hnk_v117.2.2.1]; decide), (by rw [va_up_n (by decide), va_up_n (by decide), hnk_v117.2.2.2.2]; decide)⟩ (by omega)) (by omega) (by omega) (by omega) (Int.le_refl _)) (by omega)))⟩) d_Mpg_conditional_197
            · have nc144 : ¬ (0 : Int) ≤ v95.toInt := mt (i_le (x := 0) (y := v95)).mpr c144
              exfalso
              omega
          · have nc143 : ¬ (0 : Int) ≤ v10.toInt := mt (i_le (x := 0) (y := v10)).mpr c143
            exfalso
            omega
        · have nc130 : ¬ (0 : Int) ≤ v95.toInt := mt (i_le (x := 0) (y := v95)).mpr c130
          refine lv_iconst (v := (-1)) S.x S.b d_Mpg_conditional_121 (by decide) ?_
          refine lv_iload S.x S.b d_Mpg_conditional_122 (lv_at hl 1 rfl) ?_
          refine lv_isub S.x S.b d_Mpg_conditional_124 ?_
          refine lv_topi (fun z145 ez145 => ?_)
          have tz145 : z145.toInt = ((-1 : Int) - v95.toInt + 2147483648) % 4294967296 - 2147483648 := by rw [ez145]; exact i_sub (-1) v95
          have lz145 := Int32.le_toInt z145
          have uz145 := Int32.toInt_lt z145
          try replace tz145 : z145.toInt = (-1 : Int) - v95.toInt := by omega
          have ht_z145 := hxd_v95.neg (z := z145) (by omega) (by omega); have hn_ht_z145 := ht_z145.num
          refine lv_goto (tgt := 130) S.x S.b d_Mpg_conditional_125 (by decide) ?_
          refine px_iald S hT hw 0 19 (n := 2100) (f := (na114 23)) rfl gp_23 (x := z145) (vp_in_iff.mpr (by constructor <;> omega)) d_Mpg_conditional_130 ?_
          refine lv_topi (fun z146 ez146 => ?_)
          have lz146 := Int32.le_toInt z146
          have uz146 := Int32.toInt_lt z146
          have rz146 : z146.toInt = dp na114 z145 := by rw [ez146]; rfl
          refine px_calli (pr := [wdP cs h r g tf ta pf113 na114 ma115 wa93 cf ca ef ea xf xa]) (px_runS (As := [.int z129, .int z146]) (rest := [.int z128, .int 1, .int v117, .ref (r 23)]) S (c_mp_deeper l D cs  z129 z146   _) hT (pr := [wdP cs h r g tf ta pf113 na114 ma115 wa93 cf ca ef ea xf xa]) (pcs := []) hw px_X.tt m12_49 m12_47 m12_48 m1_21 q_Mpg_deeper ⟨show 0 + 1 ≤ (8 * lv + 19) from by omega, show 8 + (2 + 11) + 0 ≤ (220 * lv + 690) from by omega⟩ hl.1 rfl (Nat.le_of_ble_eq_true rfl) d_Mpg_conditional_131 ⟨Nat.le_of_ble_eq_true rfl, Nat.le_of_ble_eq_true rfl⟩) hw hA (fun v148 p147 H locs hp147 hw => ?_)
          obtain ⟨rfl, e149, e150, e151⟩ := hp147
          have e149 : z129.toInt ≤ v148.toInt := e149
          have e150 : z146.toInt ≤ v148.toInt := e150
          have e151 : v148.toInt = z129.toInt ∨ v148.toInt = z146.toInt := e151
          have hw : pw D A s.heap H locs [wdP cs h r g tf ta pf113 na114 ma115 wa93 cf ca ef ea xf xa] := hw
          have lv148 := Int32.le_toInt v148
          have uv148 := Int32.toInt_lt v148
          refine px_calli (pr := [wdP cs h r g tf ta pf113 na114 ma115 wa93 cf ca ef ea xf xa]) (px_runS (As := [.int z128, .int v148]) (rest := [.int 1, .int v117, .ref (r 23)]) S (c_mp_deeper l D cs  z128 v148   _) hT (pr := [wdP cs h r g tf ta pf113 na114 ma115 wa93 cf ca ef ea xf xa]) (pcs := []) hw px_X.tt m12_49 m12_47 m12_48 m1_21 q_Mpg_deeper ⟨show 0 + 1 ≤ (8 * lv + 19) from by omega, show 8 + (2 + 11) + 0 ≤ (220 * lv + 690) from by omega⟩ hl.1 rfl (Nat.le_of_ble_eq_true rfl) d_Mpg_conditional_134 ⟨Nat.le_of_ble_eq_true rfl, Nat.le_of_ble_eq_true rfl⟩) hw hA (fun v153 p152 H locs hp152 hw => ?_)
          obtain ⟨rfl, e154, e155, e156⟩ := hp152
          have e154 : z128.toInt ≤ v153.toInt := e154
          have e155 : v148.toInt ≤ v153.toInt := e155
          have e156 : v153.toInt = z128.toInt ∨ v153.toInt = v148.toInt := e156
          have hw : pw D A s.heap H locs [wdP cs h r g tf ta pf113 na114 ma115 wa93 cf ca ef ea xf xa] := hw
          have lv153 := Int32.le_toInt v153
          have uv153 := Int32.toInt_lt v153
          refine lv_iadd S.x S.b d_Mpg_conditional_137 ?_
          refine lv_topi (fun z157 ez157 => ?_)
          have tz157 : z157.toInt = ((1 : Int) + v153.toInt + 2147483648) % 4294967296 - 2147483648 := by rw [ez157]; exact i_add 1 v153
          have lz157 := Int32.le_toInt z157
          have uz157 := Int32.toInt_lt z157
          try replace tz157 : z157.toInt = (1 : Int) + v153.toInt := by omega
          refine px_iast S hT hw 0 19 (n := 2100) (f := (na114 23)) (x := v117) (y := z157) rfl gp_23 (vp_in_iff.mpr (by constructor <;> omega)) d_Mpg_conditional_138 (w' := wdP cs h r g tf ta pf113 (va_up na114 23 (upd (na114 23) v117.toNatClampNeg z157)) ma115 wa93 cf ca ef ea xf xa) (ps' := [wdP cs h r g tf ta pf113 (va_up na114 23 (upd (na114 23) v117.toNatClampNeg z157)) ma115 wa93 cf ca ef ea xf xa]) sp_23 rfl (fun H locs hw => ?_)
          refine lv_aload_n S.x S.b d_Mpg_conditional_139 rfl (lv_at hl 6 rfl) ?_
          refine px_get S k_Mpg hT hw 0 0 16 (v := .ref (r 16)) rfl rfl rfl (by decide) m10_0 d_Mpg_conditional_140 ?_
          refine lv_iload S.x S.b d_Mpg_conditional_143 (lv_at hl 0 rfl) ?_
          refine lv_iload_n S.x S.b d_Mpg_conditional_145 rfl (lv_at hl 5 rfl) ?_
          refine px_iast S hT hw 0 12 (n := 2100) (f := ((va_up na114 23 (upd (na114 23) v117.toNatClampNeg z157)) 16)) (x := v117) (y := (pf 11)) rfl gp_16 (vp_in_iff.mpr (by constructor <;> omega)) d_Mpg_conditional_146 (w' := wdP cs h r g tf ta pf113 (va_up (va_up na114 23 (upd (na114 23) v117.toNatClampNeg z157)) 16 (upd ((va_up na114 23 (upd (na114 23) v117.toNatClampNeg z157)) 16) v117.toNatClampNeg (pf 11))) ma115 wa93 cf ca ef ea xf xa) (ps' := [wdP cs h r g tf ta pf113 (va_up (va_up na114 23 (upd (na114 23) v117.toNatClampNeg z157)) 16 (upd ((va_up na114 23 (upd (na114 23) v117.toNatClampNeg z157)) 16) v117.toNatClampNeg (pf 11))) ma115 wa93 cf ca ef ea xf xa]) sp_16 rfl (fun H locs hw => ?_)
          refine lv_aload_n S.x S.b d_Mpg_conditional_147 rfl (lv_at hl 6 rfl) ?_
          refine px_get S k_Mpg hT hw 0 0 17 (v := .ref (r 17)) rfl rfl rfl (by decide) m10_1 d_Mpg_conditional_148 ?_
          refine lv_iload S.x S.b d_Mpg_conditional_151 (lv_at hl 0 rfl) ?_
          refine lv_iload_n S.x S.b d_Mpg_conditional_153 rfl (lv_at hl 4 rfl) ?_
          refine lv_if_ge (tgt := 163) S.x S.b d_Mpg_conditional_154 (by decide) (fun c158 => ?_) (fun c158 => ?_)
          · have nc158 : (0 : Int) ≤ v10.toInt := (i_le (x := 0) (y := v10)).mp c158
            refine lv_iload_n S.x S.b d_Mpg_conditional_163 rfl (lv_at hl 4 rfl) ?_
            refine px_iast S hT hw 0 13 (n := 2100) (f := ((va_up (va_up na114 23 (upd (na114 23) v117.toNatClampNeg z157)) 16 (upd ((va_up na114 23 (upd (na114 23) v117.toNatClampNeg z157)) 16) v117.toNatClampNeg (pf 11))) 17)) (x := v117) (y := v10) rfl gp_17 (vp_in_iff.mpr (by constructor <;> omega)) d_Mpg_conditional_164 (w' := wdP cs h r g tf ta pf113 (va_up (va_up (va_up na114 23 (upd (na114 23) v117.toNatClampNeg z157)) 16 (upd ((va_up na114 23 (upd (na114 23) v117.toNatClampNeg z157)) 16) v117.toNatClampNeg (pf 11))) 17 (upd ((va_up (va_up na114 23 (upd (na114 23) v117.toNatClampNeg z157)) 16 (upd ((va_up na114 23 (upd (na114 23) v117.toNatClampNeg z157)) 16) v117.toNatClampNeg (pf 11))) 17) v117.toNatClampNeg v10)) ma115 wa93 cf ca ef ea xf xa) (ps' := [wdP cs h r g tf ta pf113 (va_up (va_up (va_up na114 23 (upd (na114 23) v117.toNatClampNeg z157)) 16 (upd ((va_up na114 23 (upd (na114 23) v117.toNatClampNeg z157)) 16) v117.toNatClampNeg (pf 11))) 17 (upd ((va_up (va_up na114 23 (upd (na114 23) v117.toNatClampNeg z157)) 16 (upd ((va_up na114 23 (upd (na114 23) v117.toNatClampNeg z157)) 16) v117.toNatClampNeg (pf 11))) 17) v117.toNatClampNeg v10)) ma115 wa93 cf ca ef ea xf xa]) sp_17 rfl (fun H locs hw => ?_)
            refine lv_aload_n S.x S.b d_Mpg_conditional_165 rfl (lv_at hl 6 rfl) ?_
            refine px_get S k_Mpg hT hw 0 0 18 (v := .ref (r 18)) rfl rfl rfl (by decide) m10_3 d_Mpg_conditional_166 ?_
            refine lv_iload S.x S.b d_Mpg_conditional_169 (lv_at hl 0 rfl) ?_
            refine lv_iload S.x S.b d_Mpg_conditional_171 (lv_at hl 2 rfl) ?_
            refine px_iast S hT hw 0 14 (n := 2100) (f := (ma115 18)) (x := v117) (y := v58) rfl gp_18 (vp_in_iff.mpr (by constructor <;> omega)) d_Mpg_conditional_173 (w' := wdP cs h r g tf ta pf113 (va_up (va_up (va_up na114 23 (upd (na114 23) v117.toNatClampNeg z157)) 16 (upd ((va_up na114 23 (upd (na114 23) v117.toNatClampNeg z157)) 16) v117.toNatClampNeg (pf 11))) 17 (upd ((va_up (va_up na114 23 (upd (na114 23) v117.toNatClampNeg z157)) 16 (upd ((va_up na114 23 (upd (na114 23) v117.toNatClampNeg z157)) 16) v117.toNatClampNeg (pf 11))) 17) v117.toNatClampNeg v10)) (va_up ma115 18 (upd (ma115 18) v117.toNatClampNeg v58)) wa93 cf ca ef ea xf xa) (ps' := [wdP cs h r g tf ta pf113 (va_up (va_up (va_up na114 23 (upd (na114 23) v117.toNatClampNeg z157)) 16 (upd ((va_up na114 23 (upd (na114 23) v117.toNatClampNeg z157)) 16) v117.toNatClampNeg (pf 11))) 17 (upd ((va_up (va_up na114 23 (upd (na114 23) v117.toNatClampNeg z157)) 16 (upd ((va_up na114 23 (upd (na114 23) v117.toNatClampNeg z157)) 16) v117.toNatClampNeg (pf 11))) 17) v117.toNatClampNeg v10)) (va_up ma115 18 (upd (ma115 18) v117.toNatClampNeg v58)) wa93 cf ca ef ea xf xa]) sp_18 rfl (fun H locs hw => ?_)
            refine lv_aload_n S.x S.b d_Mpg_conditional_174 rfl (lv_at hl 6 rfl) ?_
            refine px_get S k_Mpg hT hw 0 0 19 (v := .ref (r 19)) rfl rfl rfl (by decide) m10_5 d_Mpg_conditional_175 ?_
            refine lv_iload S.x S.b d_Mpg_conditional_178 (lv_at hl 0 rfl) ?_
            refine lv_iload S.x S.b d_Mpg_conditional_180 (lv_at hl 1 rfl) ?_
            refine lv_if_ge (tgt := 192) S.x S.b d_Mpg_conditional_182 (by decide) (fun c159 => ?_) (fun c159 => ?_)
            · have nc159 : (0 : Int) ≤ v95.toInt := (i_le (x := 0) (y := v95)).mp c159
              exfalso
              omega
            · have nc159 : ¬ (0 : Int) ≤ v95.toInt := mt (i_le (x := 0) (y := v95)).mpr c159
              refine lv_iconst (v := (-1)) S.x S.b d_Mpg_conditional_185 (by decide) ?_
              refine lv_iload S.x S.b d_Mpg_conditional_186 (lv_at hl 1 rfl) ?_
              refine lv_isub S.x S.b d_Mpg_conditional_188 ?_
              refine lv_topi (fun z160 ez160 => ?_)
              have tz160 : z160.toInt = ((-1 : Int) - v95.toInt + 2147483648) % 4294967296 - 2147483648 := by rw [ez160]; exact i_sub (-1) v95
              have lz160 := Int32.le_toInt z160
              have uz160 := Int32.toInt_lt z160
              try replace tz160 : z160.toInt = (-1 : Int) - v95.toInt := by omega
              have hsz160 : z145 = z160 := i_eq.mpr (by omega); subst hsz160
              refine lv_goto (tgt := 194) S.x S.b d_Mpg_conditional_189 (by decide) ?_
              refine px_iast S hT hw 0 15 (n := 2100) (f := ((va_up ma115 18 (upd (ma115 18) v117.toNatClampNeg v58)) 19)) (x := v117) (y := z145) rfl gp_19 (vp_in_iff.mpr (by constructor <;> omega)) d_Mpg_conditional_194 (w' := wdP cs h r g tf ta pf113 (va_up (va_up (va_up na114 23 (upd (na114 23) v117.toNatClampNeg z157)) 16 (upd ((va_up na114 23 (upd (na114 23) v117.toNatClampNeg z157)) 16) v117.toNatClampNeg (pf 11))) 17 (upd ((va_up (va_up na114 23 (upd (na114 23) v117.toNatClampNeg z157)) 16 (upd ((va_up na114 23 (upd (na114 23) v117.toNatClampNeg z157)) 16) v117.toNatClampNeg (pf 11))) 17) v117.toNatClampNeg v10)) (va_up (va_up ma115 18 (upd (ma115 18) v117.toNatClampNeg v58)) 19 (upd ((va_up ma115 18 (upd (ma115 18) v117.toNatClampNeg v58)) 19) v117.toNatClampNeg z145)) wa93 cf ca ef ea xf xa) (ps' := [wdP cs h r g tf ta pf113 (va_up (va_up (va_up na114 23 (upd (na114 23) v117.toNatClampNeg z157)) 16 (upd ((va_up na114 23 (upd (na114 23) v117.toNatClampNeg z157)) 16) v117.toNatClampNeg (pf 11))) 17 (upd ((va_up (va_up na114 23 (upd (na114 23) v117.toNatClampNeg z157)) 16 (upd ((va_up na114 23 (upd (na114 23) v117.toNatClampNeg z157)) 16) v117.toNatClampNeg (pf 11))) 17) v117.toNatClampNeg v10)) (va_up (va_up ma115 18 (upd (ma115 18) v117.toNatClampNeg v58)) 19 (upd ((va_up ma115 18 (upd (ma115 18) v117.toNatClampNeg v58)) 19) v117.toNatClampNeg z145)) wa93 cf ca ef ea xf xa]) sp_19 rfl (fun H locs hw => ?_)
              refine lv_iload S.x S.b d_Mpg_conditional_195 (lv_at hl 0 rfl) ?_
              exact th_iret (v := v117) S hr rfl hlk hAe hw (⟨pf113, (va_up (va_up (va_up na114 23 (upd (na114 23) v117.toNatClampNeg z157)) 16 (upd ((va_up na114 23 (upd (na114 23) v117.toNatClampNeg z157)) 16) v117.toNatClampNeg (pf 11))) 17 (upd ((va_up (va_up na114 23 (upd (na114 23) v117.toNatClampNeg z157)) 16 (upd ((va_up na114 23 (upd (na114 23) v117.toNatClampNeg z157)) 16) v117.toNatClampNeg (pf 11))) 17) v117.toNatClampNeg v10)), (va_up (va_up ma115 18 (upd (ma115 18) v117.toNatClampNeg v58)) 19 (upd ((va_up ma115 18 (upd (ma115 18) v117.toNatClampNeg v58)) 19) v117.toNatClampNeg z145)), wa93, rfl, (show (pf 11).toInt + 1 ≤ (pf113 11).toInt from by omega), (show (pf113 11).toInt < (tf 6).toInt from by omega), (show (pf 13).toInt + 1 ≤ (pf113 13).toInt from by omega), (show (pf113 13).toInt - (pf 13).toInt ≤ (pf113 11).toInt - (pf 11).toInt from by omega), (show bp ta (pf 11) + 1 ≤ bp ta (pf113 11) from by omega), (show (pf113 12).toInt = (pf 12).toInt from by omega), (show (pf113 24).toInt = (pf 24).toInt from by omega), (show (pf113 25).toInt = (pf 25).toInt from by omega), (show (pf113 26).toInt = (pf 26).toInt from by omega), (show FrB (pf 13).toInt na ma (va_up (va_up (va_up na114 23 (upd (na114 23) v117.toNatClampNeg z157)) 16 (upd ((va_up na114 23 (upd (na114 23) v117.toNatClampNeg z157)) 16) v117.toNatClampNeg (pf 11))) 17 (upd ((va_up (va_up na114 23 (upd (na114 23) v117.toNatClampNeg z157)) 16 (upd ((va_up na114 23 (upd (na114 23) v117.toNatClampNeg z157)) 16) v117.toNatClampNeg (pf 11))) 17) v117.toNatClampNeg v10)) (va_up (va_up ma115 18 (upd (ma115 18) v117.toNatClampNeg v58)) 19 (upd ((va_up ma115 18 (upd (ma115 18) v117.toNatClampNeg v58)) 19) v117.toNatClampNeg z145)) from (FrB.um (FrB.um (FrB.un (FrB.un (FrB.un hfb (by omega) (by omega)) (by omega) (by omega)) (by omega) (by omega)) (by omega) (by omega)) (by omega) (by omega))), (show FrW (pf 26).toInt wa wa93 from hfw), (show ExD ta (tf 6).toInt (va_up (va_up (va_up na114 23 (upd (na114 23) v117.toNatClampNeg z157)) 16 (upd ((va_up na114 23 (upd (na114 23) v117.toNatClampNeg z157)) 16) v117.toNatClampNeg (pf 11))) 17 (upd ((va_up (va_up na114 23 (upd (na114 23) v117.toNatClampNeg z157)) 16 (upd ((va_up na114 23 (upd (na114 23) v117.toNatClampNeg z157)) 16) v117.toNatClampNeg (pf 11))) 17) v117.toNatClampNeg v10)) (va_up (va_up ma115 18 (upd (ma115 18) v117.toNatClampNeg v58)) 19 (upd ((va_up ma115 18 (upd (ma115 18) v117.toNatClampNeg v58)) 19) v117.toNatClampNeg z145)) v117 (pf 13).toInt (pf113 13).toInt (3 * (bp ta (pf113 11) - bp ta (pf 11))) (pf 12).toInt from (exd_of (ExR.le (exr_cond (ExR.le ht_v10 (Int.le_refl _) (by omega) (Int.le_refl _) (Int.le_refl _)) (ExR.le ht_v58 (Int.le_refl _) (by omega) (Int.le_refl _) (by omega)) ht_z145 (by omega) (by omega) (fun x hx => ⟨fun j => by rw [up_far hx, up_far hx, up_far hx], fun j => by rw [up_far hx, up_far hx]⟩) (by rw [va_up_n (by decide), va_up_n (by decide), va_up_n (by decide), hnk_v117.1]; rfl) (ndt_of (by rw [va_up_n (by decide), va_up_n (by decide), va_up_n (by decide), hnk_v117.2.1]) (by omega) (by omega) (by omega)) (by rw [va_up_s, pk_us]) (by rw [va_up_n (by decide), va_up_s, pk_us]) (by rw [va_up_s, pk_us]) (by rw [dp_un (by decide), dp_un (by decide), dp_us]; refine ⟨?_, ?_, ?_⟩ <;> omega) (by rw [dp_un (by decide), dp_un (by decide), dp_us]; omega) ⟨(by rw [va_up_n (by decide), va_up_n (by decide), va_up_n (by decide), hnk_v117.2.2.1]; decide), (by rw [va_up_n (by decide), va_up_n (by decide), hnk_v117.2.2.2.2]; decide)⟩ (by omega)) (by omega) (by omega) (by omega) (Int.le_refl _)) (by omega)))⟩) d_Mpg_conditional_197
          · have nc158 : ¬ (0 : Int) ≤ v10.toInt := mt (i_le (x := 0) (y := v10)).mpr c158
            exfalso
            omega
      · have nc127 : ¬ (0 : Int) ≤ v10.toInt := mt (i_le (x := 0) (y := v10)).mpr c127
        exfalso
        omega
    · have nc31 : ¬ (0 : Int) ≤ v10.toInt := mt (i_le (x := 0) (y := v10)).mpr c31
      refine lv_iconst (v := (-1)) S.x S.b d_Mpg_conditional_31 (by decide) ?_
      refine lv_iload_n S.x S.b d_Mpg_conditional_32 rfl (lv_at hl 1 rfl) ?_
      refine lv_isub S.x S.b d_Mpg_conditional_33 ?_
      refine lv_topi (fun z161 ez161 => ?_)
      have tz161 : z161.toInt = ((-1 : Int) - v10.toInt + 2147483648) % 4294967296 - 2147483648 := by rw [ez161]; exact i_sub (-1) v10
      have lz161 := Int32.le_toInt z161
      have uz161 := Int32.toInt_lt z161
      try replace tz161 : z161.toInt = (-1 : Int) - v10.toInt := by omega
      have ht_z161 := hxd_v10.neg (z := z161) (by omega) (by omega); have hn_ht_z161 := ht_z161.num
      refine lv_goto (tgt := 38) S.x S.b d_Mpg_conditional_34 (by decide) ?_
      refine th_callv (ps0 := [wdP cs h r g tf ta pf na ma wa cf ca ef ea xf xa]) (pr := []) (pcs := [wdP cs h r g tf ta pf5 na6 ma7 wa8 cf ca ef ea xf xa]) (As := [.int z161]) (rest := []) (c_mp_stands l D cs h r g tf ta pf5 na6 ma7 wa8 cf ca ef ea xf xa z161  (show 0 ≤ (pf5 11).toInt from by omega) (show (pf5 11).toInt < (tf 6).toInt from by omega) (show 0 ≤ z161.toInt from by omega) (show z161.toInt < 2100 from by omega) (show 0 ≤ dp na6 z161 from by omega) (show dp na6 z161 ≤ 1000 from by omega) (show 0 ≤ (pf5 12).toInt from by omega) (show (pf5 12).toInt ≤ 60 from by omega) hlf htk) S hT hw (oX_call (P := (fun A U H => (oN A U H) ∧ (oP A g U H))) (pr := []) (oG_and oG_N oG_P) hw hA ⟨hN, hP⟩) (px_recv hT hw 0 0 rfl rfl rfl) m12_46 m12_43 m12_45 ms_9_13 m1_21 q_Mpg_stands2 ⟨show 7 + 1 ≤ (8 * lv + 19) from by omega, show 8 + (2 + 11) + 150 ≤ (220 * lv + 690) from by omega⟩ hl.1 rfl (Nat.le_of_ble_eq_true rfl) d_Mpg_conditional_38 ⟨Nat.le_of_ble_eq_true rfl, Nat.le_of_ble_eq_true rfl⟩ hne hlk hA hAe (fun o t h => Or.inr h) ?_ (fun p162 H locs hp162 hw => ?_)
      · exact fun p1 H1 locs1 hp hw => by obtain ⟨pq1, pq2, pq3, pq4, rfl, hq1, hq2⟩ := hp; exact ⟨_, ⟨pq1, pq2, pq3, pq4, rfl, hq1, hq2⟩, hw⟩
      obtain ⟨rfl, e164⟩ := hp162
      have e164 : (pf5 12).toInt + dp na6 z161 < 60 := e164
      have hw : pw D A s.heap H locs [wdP cs h r g tf ta pf5 na6 ma7 wa8 cf ca ef ea xf xa] := hw
      refine lv_aload_n S.x S.b d_Mpg_conditional_41 rfl (lv_at hl 3 rfl) ?_
      refine th_callv (ps0 := [wdP cs h r g tf ta pf na ma wa cf ca ef ea xf xa]) (pr := []) (pcs := [wdP cs h r g tf ta pf5 na6 ma7 wa8 cf ca ef ea xf xa]) (As := []) (rest := []) (c_mp_opens l D cs h r g tf ta na6 ma7 wa8 cf ca ef ea xf xa pf5   (show 0 ≤ (pf5 11).toInt from by omega) (show (pf5 11).toInt < (tf 6).toInt from by omega) (show (tf 6).toInt ≤ 2049 from by omega) (show (pf5 11).toInt + 1 < (tf 6).toInt from by omega) (show 0 ≤ (pf5 12).toInt from by omega) (show (pf5 12).toInt ≤ 60 from by omega) hlf htk) S hT hw (oX_call (P := (fun A U H => (oN A U H) ∧ (oP A g U H))) (pr := []) (oG_and oG_N oG_P) hw hA ⟨hN, hP⟩) (px_recv hT hw 0 0 rfl rfl rfl) m11_238 m11_235 m11_237 ms_9_1 m1_21 q_Mpg_opens ⟨show 7 + 1 ≤ (8 * lv + 19) from by omega, show 8 + (1 + 11) + 150 ≤ (220 * lv + 690) from by omega⟩ hl.1 rfl (Nat.le_of_ble_eq_true rfl) d_Mpg_conditional_42 ⟨Nat.le_of_ble_eq_true rfl, Nat.le_of_ble_eq_true rfl⟩ hne hlk hA hAe (fun o t h => Or.inr h) ?_ (fun p167 H locs hp167 hw => ?_)
      · exact fun p1 H1 locs1 hp hw => by obtain ⟨pq1, pq2, pq3, pq4, rfl, hq1, hq2⟩ := hp; exact ⟨_, ⟨pq1, pq2, pq3, pq4, rfl, hq1, hq2⟩, hw⟩
      obtain ⟨pf166, rfl, e169, e170, e171, e172, e173, e174, e175, e176, e177, e178⟩ := hp167
      have e169 : (pf166 11).toInt = (pf5 11).toInt + 1 := e169
      have e170 : (pf166 11).toInt < (tf 6).toInt := e170
      have e171 : bp ta (pf5 11) + sz ta (pf5 11) ≤ bp ta (pf166 11) := e171
      have e172 : 1 ≤ sz ta (pf5 11) := e172
      have e173 : (pf166 12).toInt = (pf5 12).toInt + 1 := e173
      have e174 : (pf5 12).toInt < 60 := e174
      have e175 : (pf166 13).toInt = (pf5 13).toInt := e175
      have e176 : (pf166 24).toInt = (pf5 24).toInt := e176
      have e177 : (pf166 25).toInt = (pf5 25).toInt := e177
      have e178 : (pf166 26).toInt = (pf5 26).toInt := e178
      have hw : pw D A s.heap H locs [wdP cs h r g tf ta pf166 na6 ma7 wa8 cf ca ef ea xf xa] := hw
      refine lv_aload_n S.x S.b d_Mpg_conditional_45 rfl (lv_at hl 3 rfl) ?_
      refine th_calli (ps0 := [wdP cs h r g tf ta pf na ma wa cf ca ef ea xf xa]) (pr := []) (pcs := [wdP cs h r g tf ta pf166 na6 ma7 wa8 cf ca ef ea xf xa]) (As := []) (rest := []) ((hE.go (by omega)).1 h r g tf ta cf ca ef ea xf xa pf166 na6 ma7 wa8   (show 0 ≤ (pf166 11).toInt from by omega) (show (pf166 11).toInt < (tf 6).toInt from by omega) (show (tf 6).toInt ≤ 2049 from by omega) (show 0 ≤ (pf166 12).toInt from by omega) (show (pf166 12).toInt ≤ 60 from by omega) (show 0 ≤ (pf166 13).toInt from by omega) (show (pf166 13).toInt ≤ (pf166 11).toInt + 20 from by omega) (show 0 ≤ (pf166 26).toInt from by omega) (show (pf166 26).toInt ≤ (pf166 12).toInt from by omega) (show 61 ≤ (pf166 12).toInt + ((lv - 1 : Nat) : Int) from by omega) (show lv - 1 ≤ 61 from by omega) hlf htk) S hT hw (oX_call (P := (fun A U H => (oN A U H) ∧ (oP A g U H))) (pr := []) (oG_and oG_N oG_P) hw hA ⟨hN, hP⟩) (px_recv hT hw 0 0 rfl rfl rfl) m12_38 m12_35 m12_37 ms_9_11 m1_21 q_Mpg_expression ⟨show (8 * (lv - 1) + 20) + 1 ≤ (8 * lv + 19) from by omega, show 8 + (7 + 11) + (220 * (lv - 1) + 720) ≤ (220 * lv + 690) from by omega⟩ hl.1 rfl (Nat.le_of_ble_eq_true rfl) d_Mpg_conditional_46 ⟨Nat.le_of_ble_eq_true rfl, Nat.le_of_ble_eq_true rfl⟩ hne hlk hA hAe (fun o t h => Or.inr h) ?_ (fun v188 p187 H locs hp187 hw => ?_)
      · exact fun p1 H1 locs1 hp hw => by obtain ⟨pq1, pq2, pq3, pq4, rfl, hq1, hq2⟩ := hp; exact ⟨_, ⟨pq1, pq2, pq3, pq4, rfl, hq1, hq2⟩, hw⟩
      obtain ⟨pf183, na184, ma185, wa186, rfl, e189, e190, e191, e192, e193, e194, e195, e196, e197, e198, e199, e200⟩ := hp187
      have e189 : (pf166 11).toInt + 1 ≤ (pf183 11).toInt := e189
      have e190 : (pf183 11).toInt < (tf 6).toInt := e190
      have e191 : (pf166 13).toInt + 1 ≤ (pf183 13).toInt := e191
      have e192 : (pf183 13).toInt - (pf166 13).toInt ≤ (pf183 11).toInt - (pf166 11).toInt := e192
      have e193 : bp ta (pf166 11) + 1 ≤ bp ta (pf183 11) := e193
      have e194 : (pf183 12).toInt = (pf166 12).toInt := e194
      have e195 : (pf183 24).toInt = (pf166 24).toInt := e195
      have e196 : (pf183 25).toInt = (pf166 25).toInt := e196
      have e197 : (pf183 26).toInt = (pf166 26).toInt := e197
      have e198 : FrB (pf166 13).toInt na6 ma7 na184 ma185 := e198
      have ht_z161 := ht_z161.kp (FrB.le e198 (by omega)) (by omega)
      have hn_ht_z161 := ht_z161.num
      have hdq_z161 := dp_fb (x := z161) e198 (by omega) (by omega)
      have hxd_v10 := hxd_v10.kp (FrB.le e198 (by omega)) (by omega)
      have hfb := hfb.tr e198 (by omega)
      have e199 : FrW (pf166 26).toInt wa8 wa186 := e199
      have hfw := hfw.tr e199 (by omega)
      have e200 : ExR ta (tf 6).toInt na184 ma185 v188 (pf166 13).toInt (pf183 13).toInt (3 * (bp ta (pf183 11) - bp ta (pf166 11))) (pf166 12).toInt := e200
      have ht_v188 := e200
      have hn_ht_v188 := ht_v188.num
      have hw : pw D A s.heap H locs [wdP cs h r g tf ta pf183 na184 ma185 wa186 cf ca ef ea xf xa] := hw
      have lv188 := Int32.le_toInt v188
      have uv188 := Int32.toInt_lt v188
      refine lv_istore (lv' := [(4, .int v188), (3, .int (pf5 11)), (2, .int v10), (1, .int (pf 11)), (0, .ref h)]) S.x S.b d_Mpg_conditional_49 hl (by decide) rfl (fun ls hl => ?_)
      refine lv_aload_n S.x S.b d_Mpg_conditional_51 rfl (lv_at hl 4 rfl) ?_
      obtain ⟨sk201, hRsk201, st202, sb203, hSsk201⟩ := oP_lit hP (k := 103) (tx := ":") (n := 1) (List.mem_of_getElem? (i := 43) rfl)
      refine va_ldcS S.x S.b S.own hRsk201 d_Mpg_conditional_52 ?_
      refine th_callv (ps0 := [wdP cs h r g tf ta pf na ma wa cf ca ef ea xf xa]) (pr := []) (pcs := [wdP cs h r g tf ta pf183 na184 ma185 wa186 cf ca ef ea xf xa]) (As := [.ref sk201]) (rest := []) (c_mp_take l D cs sk201 1 h r g tf ta na184 ma185 wa186 cf ca ef ea xf xa pf183   (show 0 ≤ (pf183 11).toInt from by omega) (show (pf183 11).toInt < (tf 6).toInt from by omega) (show (tf 6).toInt ≤ 2049 from by omega) (show 1 ≤ 100 from by omega) hlf htk) S hT hw (oX_call (P := (fun A U H => (oN A U H) ∧ (oP A g U H) ∧ (StS A sk201 1 U H))) (pr := []) (oG_and oG_N (oG_and oG_P oG_Q)) hw hA ⟨hN, hP, ⟨_, _, hSsk201⟩⟩) (px_recv hT hw 0 0 rfl rfl rfl) m12_57 m12_54 m12_56 ms_9_15 m1_21 q_Mpg_take ⟨show 7 + 1 ≤ (8 * lv + 19) from by omega, show 8 + (2 + 11) + 230 ≤ (220 * lv + 690) from by omega⟩ hl.1 rfl (Nat.le_of_ble_eq_true rfl) d_Mpg_conditional_54 ⟨Nat.le_of_ble_eq_true rfl, Nat.le_of_ble_eq_true rfl⟩ hne hlk hA hAe (fun o t h => Or.inr h) ?_ (fun p206 H locs hp206 hw => ?_)
      · exact fun p1 H1 locs1 hp hw => by obtain ⟨pq1, pq2, pq3, pq4, rfl, hq1, hq2⟩ := hp; exact ⟨_, ⟨pq1, pq2, pq3, pq4, rfl, hq1, hq2⟩, hw⟩
      obtain ⟨pf205, rfl, e208, e209, e210, e211, e212, e213, e214, e215⟩ := hp206
      have e208 : (pf205 11).toInt = (pf183 11).toInt + 1 := e208
      have e209 : (pf205 11).toInt < (tf 6).toInt := e209
      have e210 : bp ta (pf183 11) + 1 ≤ bp ta (pf205 11) := e210
      have e211 : (pf205 12).toInt = (pf183 12).toInt := e211
      have e212 : (pf205 13).toInt = (pf183 13).toInt := e212
      have e213 : (pf205 24).toInt = (pf183 24).toInt := e213
      have e214 : (pf205 25).toInt = (pf183 25).toInt := e214
      have e215 : (pf205 26).toInt = (pf183 26).toInt := e215
      have hw : pw D A s.heap H locs [wdP cs h r g tf ta pf205 na184 ma185 wa186 cf ca ef ea xf xa] := hw
      refine lv_aload_n S.x S.b d_Mpg_conditional_57 rfl (lv_at hl 4 rfl) ?_
      refine th_calli (ps0 := [wdP cs h r g tf ta pf na ma wa cf ca ef ea xf xa]) (pr := []) (pcs := [wdP cs h r g tf ta pf205 na184 ma185 wa186 cf ca ef ea xf xa]) (As := []) (rest := []) ((hE.go (by omega)).2 h r g tf ta cf ca ef ea xf xa pf205 na184 ma185 wa186   (show 0 ≤ (pf205 11).toInt from by omega) (show (pf205 11).toInt < (tf 6).toInt from by omega) (show (tf 6).toInt ≤ 2049 from by omega) (show 0 ≤ (pf205 12).toInt from by omega) (show (pf205 12).toInt ≤ 60 from by omega) (show 0 ≤ (pf205 13).toInt from by omega) (show (pf205 13).toInt ≤ (pf205 11).toInt + 20 from by omega) (show 0 ≤ (pf205 26).toInt from by omega) (show (pf205 26).toInt ≤ (pf205 12).toInt from by omega) (show 61 ≤ (pf205 12).toInt + ((lv - 1 : Nat) : Int) from by omega) (show lv - 1 ≤ 61 from by omega) hlf htk) S hT hw (oX_call (P := (fun A U H => (oN A U H) ∧ (oP A g U H))) (pr := []) (oG_and oG_N oG_P) hw hA ⟨hN, hP⟩) (px_recv hT hw 0 0 rfl rfl rfl) m12_14 m12_11 m12_13 ms_9_5 m1_21 q_Mpg_conditional ⟨show (8 * (lv - 1) + 19) + 1 ≤ (8 * lv + 19) from by omega, show 8 + (7 + 11) + (220 * (lv - 1) + 690) ≤ (220 * lv + 690) from by omega⟩ hl.1 rfl (Nat.le_of_ble_eq_true rfl) d_Mpg_conditional_58 ⟨Nat.le_of_ble_eq_true rfl, Nat.le_of_ble_eq_true rfl⟩ hne hlk hA hAe (fun o t h => Or.inr h) ?_ (fun v225 p224 H locs hp224 hw => ?_)
      · exact fun p1 H1 locs1 hp hw => by obtain ⟨pq1, pq2, pq3, pq4, rfl, hq1, hq2⟩ := hp; exact ⟨_, ⟨pq1, pq2, pq3, pq4, rfl, hq1, hq2⟩, hw⟩
      obtain ⟨pf220, na221, ma222, wa223, rfl, e226, e227, e228, e229, e230, e231, e232, e233, e234, e235, e236, e237⟩ := hp224
      have e226 : (pf205 11).toInt + 1 ≤ (pf220 11).toInt := e226
      have e227 : (pf220 11).toInt < (tf 6).toInt := e227
      have e228 : (pf205 13).toInt + 1 ≤ (pf220 13).toInt := e228
      have e229 : (pf220 13).toInt - (pf205 13).toInt ≤ (pf220 11).toInt - (pf205 11).toInt := e229
      have e230 : bp ta (pf205 11) + 1 ≤ bp ta (pf220 11) := e230
      have e231 : (pf220 12).toInt = (pf205 12).toInt := e231
      have e232 : (pf220 24).toInt = (pf205 24).toInt := e232
      have e233 : (pf220 25).toInt = (pf205 25).toInt := e233
      have e234 : (pf220 26).toInt = (pf205 26).toInt := e234
      have e235 : FrB (pf205 13).toInt na184 ma185 na221 ma222 := e235
      have ht_z161 := ht_z161.kp (FrB.le e235 (by omega)) (by omega)
      have hn_ht_z161 := ht_z161.num
      have hdq_z161 := dp_fb (x := z161) e235 (by omega) (by omega)
      have ht_v188 := ht_v188.kp (FrB.le e235 (by omega)) (by omega)
      have hn_ht_v188 := ht_v188.num
      have hdq_v188 := dp_fb (x := v188) e235 (by omega) (by omega)
      have hxd_v10 := hxd_v10.kp (FrB.le e235 (by omega)) (by omega)
      have hfb := hfb.tr e235 (by omega)
      have e236 : FrW (pf205 26).toInt wa186 wa223 := e236
      have hfw := hfw.tr e236 (by omega)
      have e237 : ExD ta (tf 6).toInt na221 ma222 v225 (pf205 13).toInt (pf220 13).toInt (3 * (bp ta (pf220 11) - bp ta (pf205 11))) (pf205 12).toInt := e237
      have hxd_v225 := e237
      have hnx_v225 := hxd_v225.num
      have hw : pw D A s.heap H locs [wdP cs h r g tf ta pf220 na221 ma222 wa223 cf ca ef ea xf xa] := hw
      have lv225 := Int32.le_toInt v225
      have uv225 := Int32.toInt_lt v225
      refine lv_istore (lv' := [(5, .int v225), (4, .int v188), (3, .int (pf5 11)), (2, .int v10), (1, .int (pf 11)), (0, .ref h)]) S.x S.b d_Mpg_conditional_61 hl (by decide) rfl (fun ls hl => ?_)
      refine lv_aload_n S.x S.b d_Mpg_conditional_63 rfl (lv_at hl 5 rfl) ?_
      refine lv_dup S.x S.b d_Mpg_conditional_64 rfl ?_
      refine px_get S k_Mpg hT hw 0 0 12 (v := .int (pf220 12)) rfl rfl rfl (by decide) m9_236 d_Mpg_conditional_65 ?_
      refine lv_iconst (v := 1) S.x S.b d_Mpg_conditional_68 (by decide) ?_
      refine lv_isub S.x S.b d_Mpg_conditional_69 ?_
      have lr238 := Int32.le_toInt (pf220 12)
      have ur238 := Int32.toInt_lt (pf220 12)
      refine lv_topi (fun z239 ez239 => ?_)
      have tz239 : z239.toInt = ((pf220 12).toInt - (1 : Int) + 2147483648) % 4294967296 - 2147483648 := by rw [ez239]; exact i_sub (pf220 12) 1
      have lz239 := Int32.le_toInt z239
      have uz239 := Int32.toInt_lt z239
      try replace tz239 : z239.toInt = (pf220 12).toInt - (1 : Int) := by omega
      refine px_put S k_Mpg hT hw 0 0 12 rfl rfl (by decide) m9_236 rfl rfl rfl (Nat.le_of_ble_eq_true rfl) d_Mpg_conditional_70 (w' := wdP cs h r g tf ta (upd pf220 12 z239) na221 ma222 wa223 cf ca ef ea xf xa) (ps' := [wdP cs h r g tf ta (upd pf220 12 z239) na221 ma222 wa223 cf ca ef ea xf xa]) rfl rfl (fun H locs hw => ?_)
      refine lv_aload_n S.x S.b d_Mpg_conditional_73 rfl (lv_at hl 5 rfl) ?_
      refine lv_bipush (v := 8) S.x S.b d_Mpg_conditional_74 (by decide) ?_
      refine lv_iload_n S.x S.b d_Mpg_conditional_76 rfl (lv_at hl 2 rfl) ?_
      refine px_calli (pr := []) (px_runV (As := [.int 8, .int (pf5 11)]) (rest := []) S (c_mp_make l D cs h r g tf ta wa223 cf ca ef ea xf xa (upd pf220 12 z239) na221 ma222 8 (pf5 11)  (show 0 ≤ (pf220 13).toInt from by omega) (show (pf220 13).toInt < 2100 from by omega) _) hT (pr := []) (pcs := [wdP cs h r g tf ta (upd pf220 12 z239) na221 ma222 wa223 cf ca ef ea xf xa]) hw px_X.tt (px_recv hT hw 0 0 rfl rfl rfl) m11_209 m11_206 m11_208 ms_8_12 m1_21 q_Mpg_make ⟨show 0 + 1 ≤ (8 * lv + 19) from by omega, show 8 + (3 + 11) + 0 ≤ (220 * lv + 690) from by omega⟩ hl.1 rfl (Nat.le_of_ble_eq_true rfl) d_Mpg_conditional_77 ⟨Nat.le_of_ble_eq_true rfl, Nat.le_of_ble_eq_true rfl⟩) hw hA (fun v247 p246 H locs hp246 hw => ?_)
      obtain ⟨pf243, na244, ma245, rfl, e248, e249, e250, e251, e252, e253, e254, e255⟩ := hp246
      have e248 : v247.toInt = (pf220 13).toInt := e248
      have e249 : (pf243 13).toInt = (pf220 13).toInt + 1 := e249
      have e250 : (pf243 11).toInt = (pf220 11).toInt := e250
      have e251 : (pf243 12).toInt = z239.toInt := e251
      have e252 : (pf243 24).toInt = (pf220 24).toInt := e252
      have e253 : (pf243 25).toInt = (pf220 25).toInt := e253
      have e254 : (pf243 26).toInt = (pf220 26).toInt := e254
      have e255 : MkN na221 ma222 na244 ma245 v247 (8 : Int32) (pf5 11) := e255
      obtain ⟨qb2561, qb2562, qb2563, qb2564⟩ := tk_eq (ta := ta) (x := (pf243 11)) (y := (pf220 11)) (by omega)
      have hmk_v247 := e255
      have hfm_v247 := MkN.frb (b := v247.toInt) hmk_v247 (by omega) (by omega)
      have ht_z161 := ht_z161.kp (FrB.le hfm_v247 (by omega)) (by omega)
      have hn_ht_z161 := ht_z161.num
      have hdq_z161 := dp_fb (x := z161) hfm_v247 (by omega) (by omega)
      have ht_v188 := ht_v188.kp (FrB.le hfm_v247 (by omega)) (by omega)
      have hn_ht_v188 := ht_v188.num
      have hdq_v188 := dp_fb (x := v188) hfm_v247 (by omega) (by omega)
      have hxd_v10 := hxd_v10.kp (FrB.le hfm_v247 (by omega)) (by omega)
      have hxd_v225 := hxd_v225.kp (FrB.le hfm_v247 (by omega)) (by omega)
      have hfb := hfb.tr hfm_v247 (by omega)
      have hnk_v247 := hmk_v247.nk (by decide) (by decide) (by omega)
      have hdn_v247 := dp_nk hmk_v247
      have hw : pw D A s.heap H locs [wdP cs h r g tf ta pf243 na244 ma245 wa223 cf ca ef ea xf xa] := hw
      have lv247 := Int32.le_toInt v247
      have uv247 := Int32.toInt_lt v247
      refine lv_istore (lv' := [(6, .int v247), (5, .int v225), (4, .int v188), (3, .int (pf5 11)), (2, .int v10), (1, .int (pf 11)), (0, .ref h)]) S.x S.b d_Mpg_conditional_80 hl (by decide) rfl (fun ls hl => ?_)
      refine lv_aload_n S.x S.b d_Mpg_conditional_82 rfl (lv_at hl 6 rfl) ?_
      refine px_get S k_Mpg hT hw 0 0 23 (v := .ref (r 23)) rfl rfl rfl (by decide) m10_11 d_Mpg_conditional_83 ?_
      refine lv_iload S.x S.b d_Mpg_conditional_86 (lv_at hl 0 rfl) ?_
      refine lv_iconst (v := 1) S.x S.b d_Mpg_conditional_88 (by decide) ?_
      refine lv_aload_n S.x S.b d_Mpg_conditional_89 rfl (lv_at hl 6 rfl) ?_
      refine px_get S k_Mpg hT hw 0 0 23 (v := .ref (r 23)) rfl rfl rfl (by decide) m10_11 d_Mpg_conditional_90 ?_
      refine lv_iload_n S.x S.b d_Mpg_conditional_93 rfl (lv_at hl 4 rfl) ?_
      refine lv_if_ge (tgt := 103) S.x S.b d_Mpg_conditional_94 (by decide) (fun c257 => ?_) (fun c257 => ?_)
      · have nc257 : (0 : Int) ≤ v10.toInt := (i_le (x := 0) (y := v10)).mp c257
        exfalso
        omega
      · have nc257 : ¬ (0 : Int) ≤ v10.toInt := mt (i_le (x := 0) (y := v10)).mpr c257
        refine lv_iconst (v := (-1)) S.x S.b d_Mpg_conditional_97 (by decide) ?_
        refine lv_iload_n S.x S.b d_Mpg_conditional_98 rfl (lv_at hl 4 rfl) ?_
        refine lv_isub S.x S.b d_Mpg_conditional_99 ?_
        refine lv_topi (fun z258 ez258 => ?_)
        have tz258 : z258.toInt = ((-1 : Int) - v10.toInt + 2147483648) % 4294967296 - 2147483648 := by rw [ez258]; exact i_sub (-1) v10
        have lz258 := Int32.le_toInt z258
        have uz258 := Int32.toInt_lt z258
        try replace tz258 : z258.toInt = (-1 : Int) - v10.toInt := by omega
        have hsz258 : z161 = z258 := i_eq.mpr (by omega); subst hsz258
        refine lv_goto (tgt := 104) S.x S.b d_Mpg_conditional_100 (by decide) ?_
        refine px_iald S hT hw 0 19 (n := 2100) (f := (na244 23)) rfl gp_23 (x := z161) (vp_in_iff.mpr (by constructor <;> omega)) d_Mpg_conditional_104 ?_
        refine lv_topi (fun z259 ez259 => ?_)
        have lz259 := Int32.le_toInt z259
        have uz259 := Int32.toInt_lt z259
        have rz259 : z259.toInt = dp na244 z161 := by rw [ez259]; rfl
        refine lv_aload_n S.x S.b d_Mpg_conditional_105 rfl (lv_at hl 6 rfl) ?_
        refine px_get S k_Mpg hT hw 0 0 23 (v := .ref (r 23)) rfl rfl rfl (by decide) m10_11 d_Mpg_conditional_106 ?_
        refine lv_iload S.x S.b d_Mpg_conditional_109 (lv_at hl 2 rfl) ?_
        refine px_iald S hT hw 0 19 (n := 2100) (f := (na244 23)) rfl gp_23 (x := v188) (vp_in_iff.mpr (by constructor <;> omega)) d_Mpg_conditional_111 ?_
        refine lv_topi (fun z260 ez260 => ?_)
        have lz260 := Int32.le_toInt z260
        have uz260 := Int32.toInt_lt z260
        have rz260 : z260.toInt = dp na244 v188 := by rw [ez260]; rfl
        refine lv_aload_n S.x S.b d_Mpg_conditional_112 rfl (lv_at hl 6 rfl) ?_
        refine px_get S k_Mpg hT hw 0 0 23 (v := .ref (r 23)) rfl rfl rfl (by decide) m10_11 d_Mpg_conditional_113 ?_
        refine lv_iload S.x S.b d_Mpg_conditional_116 (lv_at hl 1 rfl) ?_
        refine lv_if_ge (tgt := 128) S.x S.b d_Mpg_conditional_118 (by decide) (fun c261 => ?_) (fun c261 => ?_)
        · have nc261 : (0 : Int) ≤ v225.toInt := (i_le (x := 0) (y := v225)).mp c261
          refine lv_iload S.x S.b d_Mpg_conditional_128 (lv_at hl 1 rfl) ?_
          have ht_v225 := hxd_v225.pos (by omega); have hn_ht_v225 := ht_v225.num
          refine px_iald S hT hw 0 19 (n := 2100) (f := (na244 23)) rfl gp_23 (x := v225) (vp_in_iff.mpr (by constructor <;> omega)) d_Mpg_conditional_130 ?_
          refine lv_topi (fun z262 ez262 => ?_)
          have lz262 := Int32.le_toInt z262
          have uz262 := Int32.toInt_lt z262
          have rz262 : z262.toInt = dp na244 v225 := by rw [ez262]; rfl
          refine px_calli (pr := [wdP cs h r g tf ta pf243 na244 ma245 wa223 cf ca ef ea xf xa]) (px_runS (As := [.int z260, .int z262]) (rest := [.int z259, .int 1, .int v247, .ref (r 23)]) S (c_mp_deeper l D cs  z260 z262   _) hT (pr := [wdP cs h r g tf ta pf243 na244 ma245 wa223 cf ca ef ea xf xa]) (pcs := []) hw px_X.tt m12_49 m12_47 m12_48 m1_21 q_Mpg_deeper ⟨show 0 + 1 ≤ (8 * lv + 19) from by omega, show 8 + (2 + 11) + 0 ≤ (220 * lv + 690) from by omega⟩ hl.1 rfl (Nat.le_of_ble_eq_true rfl) d_Mpg_conditional_131 ⟨Nat.le_of_ble_eq_true rfl, Nat.le_of_ble_eq_true rfl⟩) hw hA (fun v264 p263 H locs hp263 hw => ?_)
          obtain ⟨rfl, e265, e266, e267⟩ := hp263
          have e265 : z260.toInt ≤ v264.toInt := e265
          have e266 : z262.toInt ≤ v264.toInt := e266
          have e267 : v264.toInt = z260.toInt ∨ v264.toInt = z262.toInt := e267
          have hw : pw D A s.heap H locs [wdP cs h r g tf ta pf243 na244 ma245 wa223 cf ca ef ea xf xa] := hw
          have lv264 := Int32.le_toInt v264
          have uv264 := Int32.toInt_lt v264
          refine px_calli (pr := [wdP cs h r g tf ta pf243 na244 ma245 wa223 cf ca ef ea xf xa]) (px_runS (As := [.int z259, .int v264]) (rest := [.int 1, .int v247, .ref (r 23)]) S (c_mp_deeper l D cs  z259 v264   _) hT (pr := [wdP cs h r g tf ta pf243 na244 ma245 wa223 cf ca ef ea xf xa]) (pcs := []) hw px_X.tt m12_49 m12_47 m12_48 m1_21 q_Mpg_deeper ⟨show 0 + 1 ≤ (8 * lv + 19) from by omega, show 8 + (2 + 11) + 0 ≤ (220 * lv + 690) from by omega⟩ hl.1 rfl (Nat.le_of_ble_eq_true rfl) d_Mpg_conditional_134 ⟨Nat.le_of_ble_eq_true rfl, Nat.le_of_ble_eq_true rfl⟩) hw hA (fun v269 p268 H locs hp268 hw => ?_)
          obtain ⟨rfl, e270, e271, e272⟩ := hp268
          have e270 : z259.toInt ≤ v269.toInt := e270
          have e271 : v264.toInt ≤ v269.toInt := e271
          have e272 : v269.toInt = z259.toInt ∨ v269.toInt = v264.toInt := e272
          have hw : pw D A s.heap H locs [wdP cs h r g tf ta pf243 na244 ma245 wa223 cf ca ef ea xf xa] := hw
          have lv269 := Int32.le_toInt v269
          have uv269 := Int32.toInt_lt v269
          refine lv_iadd S.x S.b d_Mpg_conditional_137 ?_
          refine lv_topi (fun z273 ez273 => ?_)
          have tz273 : z273.toInt = ((1 : Int) + v269.toInt + 2147483648) % 4294967296 - 2147483648 := by rw [ez273]; exact i_add 1 v269
          have lz273 := Int32.le_toInt z273
          have uz273 := Int32.toInt_lt z273
          try replace tz273 : z273.toInt = (1 : Int) + v269.toInt := by omega
          refine px_iast S hT hw 0 19 (n := 2100) (f := (na244 23)) (x := v247) (y := z273) rfl gp_23 (vp_in_iff.mpr (by constructor <;> omega)) d_Mpg_conditional_138 (w' := wdP cs h r g tf ta pf243 (va_up na244 23 (upd (na244 23) v247.toNatClampNeg z273)) ma245 wa223 cf ca ef ea xf xa) (ps' := [wdP cs h r g tf ta pf243 (va_up na244 23 (upd (na244 23) v247.toNatClampNeg z273)) ma245 wa223 cf ca ef ea xf xa]) sp_23 rfl (fun H locs hw => ?_)
          refine lv_aload_n S.x S.b d_Mpg_conditional_139 rfl (lv_at hl 6 rfl) ?_
          refine px_get S k_Mpg hT hw 0 0 16 (v := .ref (r 16)) rfl rfl rfl (by decide) m10_0 d_Mpg_conditional_140 ?_
          refine lv_iload S.x S.b d_Mpg_conditional_143 (lv_at hl 0 rfl) ?_
          refine lv_iload_n S.x S.b d_Mpg_conditional_145 rfl (lv_at hl 5 rfl) ?_
          refine px_iast S hT hw 0 12 (n := 2100) (f := ((va_up na244 23 (upd (na244 23) v247.toNatClampNeg z273)) 16)) (x := v247) (y := (pf 11)) rfl gp_16 (vp_in_iff.mpr (by constructor <;> omega)) d_Mpg_conditional_146 (w' := wdP cs h r g tf ta pf243 (va_up (va_up na244 23 (upd (na244 23) v247.toNatClampNeg z273)) 16 (upd ((va_up na244 23 (upd (na244 23) v247.toNatClampNeg z273)) 16) v247.toNatClampNeg (pf 11))) ma245 wa223 cf ca ef ea xf xa) (ps' := [wdP cs h r g tf ta pf243 (va_up (va_up na244 23 (upd (na244 23) v247.toNatClampNeg z273)) 16 (upd ((va_up na244 23 (upd (na244 23) v247.toNatClampNeg z273)) 16) v247.toNatClampNeg (pf 11))) ma245 wa223 cf ca ef ea xf xa]) sp_16 rfl (fun H locs hw => ?_)
          refine lv_aload_n S.x S.b d_Mpg_conditional_147 rfl (lv_at hl 6 rfl) ?_
          refine px_get S k_Mpg hT hw 0 0 17 (v := .ref (r 17)) rfl rfl rfl (by decide) m10_1 d_Mpg_conditional_148 ?_
          refine lv_iload S.x S.b d_Mpg_conditional_151 (lv_at hl 0 rfl) ?_
          refine lv_iload_n S.x S.b d_Mpg_conditional_153 rfl (lv_at hl 4 rfl) ?_
          refine lv_if_ge (tgt := 163) S.x S.b d_Mpg_conditional_154 (by decide) (fun c274 => ?_) (fun c274 => ?_)
          · have nc274 : (0 : Int) ≤ v10.toInt := (i_le (x := 0) (y := v10)).mp c274
            exfalso
            omega
          · have nc274 : ¬ (0 : Int) ≤ v10.toInt := mt (i_le (x := 0) (y := v10)).mpr c274
            refine lv_iconst (v := (-1)) S.x S.b d_Mpg_conditional_157 (by decide) ?_
            refine lv_iload_n S.x S.b d_Mpg_conditional_158 rfl (lv_at hl 4 rfl) ?_
            refine lv_isub S.x S.b d_Mpg_conditional_159 ?_
            refine lv_topi (fun z275 ez275 => ?_)
            have tz275 : z275.toInt = ((-1 : Int) - v10.toInt + 2147483648) % 4294967296 - 2147483648 := by rw [ez275]; exact i_sub (-1) v10
            have lz275 := Int32.le_toInt z275
            have uz275 := Int32.toInt_lt z275
            try replace tz275 : z275.toInt = (-1 : Int) - v10.toInt := by omega
            have hsz275 : z161 = z275 := i_eq.mpr (by omega); subst hsz275
            refine lv_goto (tgt := 164) S.x S.b d_Mpg_conditional_160 (by decide) ?_
            refine px_iast S hT hw 0 13 (n := 2100) (f := ((va_up (va_up na244 23 (upd (na244 23) v247.toNatClampNeg z273)) 16 (upd ((va_up na244 23 (upd (na244 23) v247.toNatClampNeg z273)) 16) v247.toNatClampNeg (pf 11))) 17)) (x := v247) (y := z161) rfl gp_17 (vp_in_iff.mpr (by constructor <;> omega)) d_Mpg_conditional_164 (w' := wdP cs h r g tf ta pf243 (va_up (va_up (va_up na244 23 (upd (na244 23) v247.toNatClampNeg z273)) 16 (upd ((va_up na244 23 (upd (na244 23) v247.toNatClampNeg z273)) 16) v247.toNatClampNeg (pf 11))) 17 (upd ((va_up (va_up na244 23 (upd (na244 23) v247.toNatClampNeg z273)) 16 (upd ((va_up na244 23 (upd (na244 23) v247.toNatClampNeg z273)) 16) v247.toNatClampNeg (pf 11))) 17) v247.toNatClampNeg z161)) ma245 wa223 cf ca ef ea xf xa) (ps' := [wdP cs h r g tf ta pf243 (va_up (va_up (va_up na244 23 (upd (na244 23) v247.toNatClampNeg z273)) 16 (upd ((va_up na244 23 (upd (na244 23) v247.toNatClampNeg z273)) 16) v247.toNatClampNeg (pf 11))) 17 (upd ((va_up (va_up na244 23 (upd (na244 23) v247.toNatClampNeg z273)) 16 (upd ((va_up na244 23 (upd (na244 23) v247.toNatClampNeg z273)) 16) v247.toNatClampNeg (pf 11))) 17) v247.toNatClampNeg z161)) ma245 wa223 cf ca ef ea xf xa]) sp_17 rfl (fun H locs hw => ?_)
            refine lv_aload_n S.x S.b d_Mpg_conditional_165 rfl (lv_at hl 6 rfl) ?_
            refine px_get S k_Mpg hT hw 0 0 18 (v := .ref (r 18)) rfl rfl rfl (by decide) m10_3 d_Mpg_conditional_166 ?_
            refine lv_iload S.x S.b d_Mpg_conditional_169 (lv_at hl 0 rfl) ?_
            refine lv_iload S.x S.b d_Mpg_conditional_171 (lv_at hl 2 rfl) ?_
            refine px_iast S hT hw 0 14 (n := 2100) (f := (ma245 18)) (x := v247) (y := v188) rfl gp_18 (vp_in_iff.mpr (by constructor <;> omega)) d_Mpg_conditional_173 (w' := wdP cs h r g tf ta pf243 (va_up (va_up (va_up na244 23 (upd (na244 23) v247.toNatClampNeg z273)) 16 (upd ((va_up na244 23 (upd (na244 23) v247.toNatClampNeg z273)) 16) v247.toNatClampNeg (pf 11))) 17 (upd ((va_up (va_up na244 23 (upd (na244 23) v247.toNatClampNeg z273)) 16 (upd ((va_up na244 23 (upd (na244 23) v247.toNatClampNeg z273)) 16) v247.toNatClampNeg (pf 11))) 17) v247.toNatClampNeg z161)) (va_up ma245 18 (upd (ma245 18) v247.toNatClampNeg v188)) wa223 cf ca ef ea xf xa) (ps' := [wdP cs h r g tf ta pf243 (va_up (va_up (va_up na244 23 (upd (na244 23) v247.toNatClampNeg z273)) 16 (upd ((va_up na244 23 (upd (na244 23) v247.toNatClampNeg z273)) 16) v247.toNatClampNeg (pf 11))) 17 (upd ((va_up (va_up na244 23 (upd (na244 23) v247.toNatClampNeg z273)) 16 (upd ((va_up na244 23 (upd (na244 23) v247.toNatClampNeg z273)) 16) v247.toNatClampNeg (pf 11))) 17) v247.toNatClampNeg z161)) (va_up ma245 18 (upd (ma245 18) v247.toNatClampNeg v188)) wa223 cf ca ef ea xf xa]) sp_18 rfl (fun H locs hw => ?_)
            refine lv_aload_n S.x S.b d_Mpg_conditional_174 rfl (lv_at hl 6 rfl) ?_
            refine px_get S k_Mpg hT hw 0 0 19 (v := .ref (r 19)) rfl rfl rfl (by decide) m10_5 d_Mpg_conditional_175 ?_
            refine lv_iload S.x S.b d_Mpg_conditional_178 (lv_at hl 0 rfl) ?_
            refine lv_iload S.x S.b d_Mpg_conditional_180 (lv_at hl 1 rfl) ?_
            refine lv_if_ge (tgt := 192) S.x S.b d_Mpg_conditional_182 (by decide) (fun c276 => ?_) (fun c276 => ?_)
            · have nc276 : (0 : Int) ≤ v225.toInt := (i_le (x := 0) (y := v225)).mp c276
              refine lv_iload S.x S.b d_Mpg_conditional_192 (lv_at hl 1 rfl) ?_
              refine px_iast S hT hw 0 15 (n := 2100) (f := ((va_up ma245 18 (upd (ma245 18) v247.toNatClampNeg v188)) 19)) (x := v247) (y := v225) rfl gp_19 (vp_in_iff.mpr (by constructor <;> omega)) d_Mpg_conditional_194 (w' := wdP cs h r g tf ta pf243 (va_up (va_up (va_up na244 23 (upd (na244 23) v247.toNatClampNeg z273)) 16 (upd ((va_up na244 23 (upd (na244 23) v247.toNatClampNeg z273)) 16) v247.toNatClampNeg (pf 11))) 17 (upd ((va_up (va_up na244 23 (upd (na244 23) v247.toNatClampNeg z273)) 16 (upd ((va_up na244 23 (upd (na244 23) v247.toNatClampNeg z273)) 16) v247.toNatClampNeg (pf 11))) 17) v247.toNatClampNeg z161)) (va_up (va_up ma245 18 (upd (ma245 18) v247.toNatClampNeg v188)) 19 (upd ((va_up ma245 18 (upd (ma245 18) v247.toNatClampNeg v188)) 19) v247.toNatClampNeg v225)) wa223 cf ca ef ea xf xa) (ps' := [wdP cs h r g tf ta pf243 (va_up (va_up (va_up na244 23 (upd (na244 23) v247.toNatClampNeg z273)) 16 (upd ((va_up na244 23 (upd (na244 23) v247.toNatClampNeg z273)) 16) v247.toNatClampNeg (pf 11))) 17 (upd ((va_up (va_up na244 23 (upd (na244 23) v247.toNatClampNeg z273)) 16 (upd ((va_up na244 23 (upd (na244 23) v247.toNatClampNeg z273)) 16) v247.toNatClampNeg (pf 11))) 17) v247.toNatClampNeg z161)) (va_up (va_up ma245 18 (upd (ma245 18) v247.toNatClampNeg v188)) 19 (upd ((va_up ma245 18 (upd (ma245 18) v247.toNatClampNeg v188)) 19) v247.toNatClampNeg v225)) wa223 cf ca ef ea xf xa]) sp_19 rfl (fun H locs hw => ?_)
              refine lv_iload S.x S.b d_Mpg_conditional_195 (lv_at hl 0 rfl) ?_
              exact th_iret (v := v247) S hr rfl hlk hAe hw (⟨pf243, (va_up (va_up (va_up na244 23 (upd (na244 23) v247.toNatClampNeg z273)) 16 (upd ((va_up na244 23 (upd (na244 23) v247.toNatClampNeg z273)) 16) v247.toNatClampNeg (pf 11))) 17 (upd ((va_up (va_up na244 23 (upd (na244 23) v247.toNatClampNeg z273)) 16 (upd ((va_up na244 23 (upd (na244 23) v247.toNatClampNeg z273)) 16) v247.toNatClampNeg (pf 11))) 17) v247.toNatClampNeg z161)), (va_up (va_up ma245 18 (upd (ma245 18) v247.toNatClampNeg v188)) 19 (upd ((va_up ma245 18 (upd (ma245 18) v247.toNatClampNeg v188)) 19) v247.toNatClampNeg v225)), wa223, rfl, (show (pf 11).toInt + 1 ≤ (pf243 11).toInt from by omega), (show (pf243 11).toInt < (tf 6).toInt from by omega), (show (pf 13).toInt + 1 ≤ (pf243 13).toInt from by omega), (show (pf243 13).toInt - (pf 13).toInt ≤ (pf243 11).toInt - (pf 11).toInt from by omega), (show bp ta (pf 11) + 1 ≤ bp ta (pf243 11) from by omega), (show (pf243 12).toInt = (pf 12).toInt from by omega), (show (pf243 24).toInt = (pf 24).toInt from by omega), (show (pf243 25).toInt = (pf 25).toInt from by omega), (show (pf243 26).toInt = (pf 26).toInt from by omega), (show FrB (pf 13).toInt na ma (va_up (va_up (va_up na244 23 (upd (na244 23) v247.toNatClampNeg z273)) 16 (upd ((va_up na244 23 (upd (na244 23) v247.toNatClampNeg z273)) 16) v247.toNatClampNeg (pf 11))) 17 (upd ((va_up (va_up na244 23 (upd (na244 23) v247.toNatClampNeg z273)) 16 (upd ((va_up na244 23 (upd (na244 23) v247.toNatClampNeg z273)) 16) v247.toNatClampNeg (pf 11))) 17) v247.toNatClampNeg z161)) (va_up (va_up ma245 18 (upd (ma245 18) v247.toNatClampNeg v188)) 19 (upd ((va_up ma245 18 (upd (ma245 18) v247.toNatClampNeg v188)) 19) v247.toNatClampNeg v225)) from (FrB.um (FrB.um (FrB.un (FrB.un (FrB.un hfb (by omega) (by omega)) (by omega) (by omega)) (by omega) (by omega)) (by omega) (by omega)) (by omega) (by omega))), (show FrW (pf 26).toInt wa wa223 from hfw), (show ExD ta (tf 6).toInt (va_up (va_up (va_up na244 23 (upd (na244 23) v247.toNatClampNeg z273)) 16 (upd ((va_up na244 23 (upd (na244 23) v247.toNatClampNeg z273)) 16) v247.toNatClampNeg (pf 11))) 17 (upd ((va_up (va_up na244 23 (upd (na244 23) v247.toNatClampNeg z273)) 16 (upd ((va_up na244 23 (upd (na244 23) v247.toNatClampNeg z273)) 16) v247.toNatClampNeg (pf 11))) 17) v247.toNatClampNeg z161)) (va_up (va_up ma245 18 (upd (ma245 18) v247.toNatClampNeg v188)) 19 (upd ((va_up ma245 18 (upd (ma245 18) v247.toNatClampNeg v188)) 19) v247.toNatClampNeg v225)) v247 (pf 13).toInt (pf243 13).toInt (3 * (bp ta (pf243 11) - bp ta (pf 11))) (pf 12).toInt from (exd_of (ExR.le (exr_cond (ExR.le ht_z161 (Int.le_refl _) (by omega) (Int.le_refl _) (Int.le_refl _)) (ExR.le ht_v188 (Int.le_refl _) (by omega) (Int.le_refl _) (by omega)) ht_v225 (by omega) (by omega) (fun x hx => ⟨fun j => by rw [up_far hx, up_far hx, up_far hx], fun j => by rw [up_far hx, up_far hx]⟩) (by rw [va_up_n (by decide), va_up_n (by decide), va_up_n (by decide), hnk_v247.1]; rfl) (ndt_of (by rw [va_up_n (by decide), va_up_n (by decide), va_up_n (by decide), hnk_v247.2.1]) (by omega) (by omega) (by omega)) (by rw [va_up_s, pk_us]) (by rw [va_up_n (by decide), va_up_s, pk_us]) (by rw [va_up_s, pk_us]) (by rw [dp_un (by decide), dp_un (by decide), dp_us]; refine ⟨?_, ?_, ?_⟩ <;> omega) (by rw [dp_un (by decide), dp_un (by decide), dp_us]; omega) ⟨(by rw [va_up_n (by decide), va_up_n (by decide), va_up_n (by decide), hnk_v247.2.2.1]; decide), (by rw [va_up_n (by decide), va_up_n (by decide), hnk_v247.2.2.2.2]; decide)⟩ (by omega)) (by omega) (by omega) (by omega) (Int.le_refl _)) (by omega)))⟩) d_Mpg_conditional_197
            · have nc276 : ¬ (0 : Int) ≤ v225.toInt := mt (i_le (x := 0) (y := v225)).mpr c276
              exfalso
              omega
        · have nc261 : ¬ (0 : Int) ≤ v225.toInt := mt (i_le (x := 0) (y := v225)).mpr c261
          refine lv_iconst (v := (-1)) S.x S.b d_Mpg_conditional_121 (by decide) ?_
          refine lv_iload S.x S.b d_Mpg_conditional_122 (lv_at hl 1 rfl) ?_
          refine lv_isub S.x S.b d_Mpg_conditional_124 ?_
          refine lv_topi (fun z277 ez277 => ?_)
          have tz277 : z277.toInt = ((-1 : Int) - v225.toInt + 2147483648) % 4294967296 - 2147483648 := by rw [ez277]; exact i_sub (-1) v225
          have lz277 := Int32.le_toInt z277
          have uz277 := Int32.toInt_lt z277
          try replace tz277 : z277.toInt = (-1 : Int) - v225.toInt := by omega
          have ht_z277 := hxd_v225.neg (z := z277) (by omega) (by omega); have hn_ht_z277 := ht_z277.num
          refine lv_goto (tgt := 130) S.x S.b d_Mpg_conditional_125 (by decide) ?_
          refine px_iald S hT hw 0 19 (n := 2100) (f := (na244 23)) rfl gp_23 (x := z277) (vp_in_iff.mpr (by constructor <;> omega)) d_Mpg_conditional_130 ?_
          refine lv_topi (fun z278 ez278 => ?_)
          have lz278 := Int32.le_toInt z278
          have uz278 := Int32.toInt_lt z278
          have rz278 : z278.toInt = dp na244 z277 := by rw [ez278]; rfl
          refine px_calli (pr := [wdP cs h r g tf ta pf243 na244 ma245 wa223 cf ca ef ea xf xa]) (px_runS (As := [.int z260, .int z278]) (rest := [.int z259, .int 1, .int v247, .ref (r 23)]) S (c_mp_deeper l D cs  z260 z278   _) hT (pr := [wdP cs h r g tf ta pf243 na244 ma245 wa223 cf ca ef ea xf xa]) (pcs := []) hw px_X.tt m12_49 m12_47 m12_48 m1_21 q_Mpg_deeper ⟨show 0 + 1 ≤ (8 * lv + 19) from by omega, show 8 + (2 + 11) + 0 ≤ (220 * lv + 690) from by omega⟩ hl.1 rfl (Nat.le_of_ble_eq_true rfl) d_Mpg_conditional_131 ⟨Nat.le_of_ble_eq_true rfl, Nat.le_of_ble_eq_true rfl⟩) hw hA (fun v280 p279 H locs hp279 hw => ?_)
          obtain ⟨rfl, e281, e282, e283⟩ := hp279
          have e281 : z260.toInt ≤ v280.toInt := e281
          have e282 : z278.toInt ≤ v280.toInt := e282
          have e283 : v280.toInt = z260.toInt ∨ v280.toInt = z278.toInt := e283
          have hw : pw D A s.heap H locs [wdP cs h r g tf ta pf243 na244 ma245 wa223 cf ca ef ea xf xa] := hw
          have lv280 := Int32.le_toInt v280
          have uv280 := Int32.toInt_lt v280
          refine px_calli (pr := [wdP cs h r g tf ta pf243 na244 ma245 wa223 cf ca ef ea xf xa]) (px_runS (As := [.int z259, .int v280]) (rest := [.int 1, .int v247, .ref (r 23)]) S (c_mp_deeper l D cs  z259 v280   _) hT (pr := [wdP cs h r g tf ta pf243 na244 ma245 wa223 cf ca ef ea xf xa]) (pcs := []) hw px_X.tt m12_49 m12_47 m12_48 m1_21 q_Mpg_deeper ⟨show 0 + 1 ≤ (8 * lv + 19) from by omega, show 8 + (2 + 11) + 0 ≤ (220 * lv + 690) from by omega⟩ hl.1 rfl (Nat.le_of_ble_eq_true rfl) d_Mpg_conditional_134 ⟨Nat.le_of_ble_eq_true rfl, Nat.le_of_ble_eq_true rfl⟩) hw hA (fun v285 p284 H locs hp284 hw => ?_)
          obtain ⟨rfl, e286, e287, e288⟩ := hp284
          have e286 : z259.toInt ≤ v285.toInt := e286
          have e287 : v280.toInt ≤ v285.toInt := e287
          have e288 : v285.toInt = z259.toInt ∨ v285.toInt = v280.toInt := e288
          have hw : pw D A s.heap H locs [wdP cs h r g tf ta pf243 na244 ma245 wa223 cf ca ef ea xf xa] := hw
          have lv285 := Int32.le_toInt v285
          have uv285 := Int32.toInt_lt v285
          refine lv_iadd S.x S.b d_Mpg_conditional_137 ?_
          refine lv_topi (fun z289 ez289 => ?_)
          have tz289 : z289.toInt = ((1 : Int) + v285.toInt + 2147483648) % 4294967296 - 2147483648 := by rw [ez289]; exact i_add 1 v285
          have lz289 := Int32.le_toInt z289
          have uz289 := Int32.toInt_lt z289
          try replace tz289 : z289.toInt = (1 : Int) + v285.toInt := by omega
          refine px_iast S hT hw 0 19 (n := 2100) (f := (na244 23)) (x := v247) (y := z289) rfl gp_23 (vp_in_iff.mpr (by constructor <;> omega)) d_Mpg_conditional_138 (w' := wdP cs h r g tf ta pf243 (va_up na244 23 (upd (na244 23) v247.toNatClampNeg z289)) ma245 wa223 cf ca ef ea xf xa) (ps' := [wdP cs h r g tf ta pf243 (va_up na244 23 (upd (na244 23) v247.toNatClampNeg z289)) ma245 wa223 cf ca ef ea xf xa]) sp_23 rfl (fun H locs hw => ?_)
          refine lv_aload_n S.x S.b d_Mpg_conditional_139 rfl (lv_at hl 6 rfl) ?_
          refine px_get S k_Mpg hT hw 0 0 16 (v := .ref (r 16)) rfl rfl rfl (by decide) m10_0 d_Mpg_conditional_140 ?_
          refine lv_iload S.x S.b d_Mpg_conditional_143 (lv_at hl 0 rfl) ?_
          refine lv_iload_n S.x S.b d_Mpg_conditional_145 rfl (lv_at hl 5 rfl) ?_
          refine px_iast S hT hw 0 12 (n := 2100) (f := ((va_up na244 23 (upd (na244 23) v247.toNatClampNeg z289)) 16)) (x := v247) (y := (pf 11)) rfl gp_16 (vp_in_iff.mpr (by constructor <;> omega)) d_Mpg_conditional_146 (w' := wdP cs h r g tf ta pf243 (va_up (va_up na244 23 (upd (na244 23) v247.toNatClampNeg z289)) 16 (upd ((va_up na244 23 (upd (na244 23) v247.toNatClampNeg z289)) 16) v247.toNatClampNeg (pf 11))) ma245 wa223 cf ca ef ea xf xa) (ps' := [wdP cs h r g tf ta pf243 (va_up (va_up na244 23 (upd (na244 23) v247.toNatClampNeg z289)) 16 (upd ((va_up na244 23 (upd (na244 23) v247.toNatClampNeg z289)) 16) v247.toNatClampNeg (pf 11))) ma245 wa223 cf ca ef ea xf xa]) sp_16 rfl (fun H locs hw => ?_)
          refine lv_aload_n S.x S.b d_Mpg_conditional_147 rfl (lv_at hl 6 rfl) ?_
          refine px_get S k_Mpg hT hw 0 0 17 (v := .ref (r 17)) rfl rfl rfl (by decide) m10_1 d_Mpg_conditional_148 ?_
          refine lv_iload S.x S.b d_Mpg_conditional_151 (lv_at hl 0 rfl) ?_
          refine lv_iload_n S.x S.b d_Mpg_conditional_153 rfl (lv_at hl 4 rfl) ?_
          refine lv_if_ge (tgt := 163) S.x S.b d_Mpg_conditional_154 (by decide) (fun c290 => ?_) (fun c290 => ?_)
          · have nc290 : (0 : Int) ≤ v10.toInt := (i_le (x := 0) (y := v10)).mp c290
            exfalso
            omega
          · have nc290 : ¬ (0 : Int) ≤ v10.toInt := mt (i_le (x := 0) (y := v10)).mpr c290
            refine lv_iconst (v := (-1)) S.x S.b d_Mpg_conditional_157 (by decide) ?_
            refine lv_iload_n S.x S.b d_Mpg_conditional_158 rfl (lv_at hl 4 rfl) ?_
            refine lv_isub S.x S.b d_Mpg_conditional_159 ?_
            refine lv_topi (fun z291 ez291 => ?_)
            have tz291 : z291.toInt = ((-1 : Int) - v10.toInt + 2147483648) % 4294967296 - 2147483648 := by rw [ez291]; exact i_sub (-1) v10
            have lz291 := Int32.le_toInt z291
            have uz291 := Int32.toInt_lt z291
            try replace tz291 : z291.toInt = (-1 : Int) - v10.toInt := by omega
            have hsz291 : z161 = z291 := i_eq.mpr (by omega); subst hsz291
            refine lv_goto (tgt := 164) S.x S.b d_Mpg_conditional_160 (by decide) ?_
            refine px_iast S hT hw 0 13 (n := 2100) (f := ((va_up (va_up na244 23 (upd (na244 23) v247.toNatClampNeg z289)) 16 (upd ((va_up na244 23 (upd (na244 23) v247.toNatClampNeg z289)) 16) v247.toNatClampNeg (pf 11))) 17)) (x := v247) (y := z161) rfl gp_17 (vp_in_iff.mpr (by constructor <;> omega)) d_Mpg_conditional_164 (w' := wdP cs h r g tf ta pf243 (va_up (va_up (va_up na244 23 (upd (na244 23) v247.toNatClampNeg z289)) 16 (upd ((va_up na244 23 (upd (na244 23) v247.toNatClampNeg z289)) 16) v247.toNatClampNeg (pf 11))) 17 (upd ((va_up (va_up na244 23 (upd (na244 23) v247.toNatClampNeg z289)) 16 (upd ((va_up na244 23 (upd (na244 23) v247.toNatClampNeg z289)) 16) v247.toNatClampNeg (pf 11))) 17) v247.toNatClampNeg z161)) ma245 wa223 cf ca ef ea xf xa) (ps' := [wdP cs h r g tf ta pf243 (va_up (va_up (va_up na244 23 (upd (na244 23) v247.toNatClampNeg z289)) 16 (upd ((va_up na244 23 (upd (na244 23) v247.toNatClampNeg z289)) 16) v247.toNatClampNeg (pf 11))) 17 (upd ((va_up (va_up na244 23 (upd (na244 23) v247.toNatClampNeg z289)) 16 (upd ((va_up na244 23 (upd (na244 23) v247.toNatClampNeg z289)) 16) v247.toNatClampNeg (pf 11))) 17) v247.toNatClampNeg z161)) ma245 wa223 cf ca ef ea xf xa]) sp_17 rfl (fun H locs hw => ?_)
            refine lv_aload_n S.x S.b d_Mpg_conditional_165 rfl (lv_at hl 6 rfl) ?_
            refine px_get S k_Mpg hT hw 0 0 18 (v := .ref (r 18)) rfl rfl rfl (by decide) m10_3 d_Mpg_conditional_166 ?_
            refine lv_iload S.x S.b d_Mpg_conditional_169 (lv_at hl 0 rfl) ?_
            refine lv_iload S.x S.b d_Mpg_conditional_171 (lv_at hl 2 rfl) ?_
            refine px_iast S hT hw 0 14 (n := 2100) (f := (ma245 18)) (x := v247) (y := v188) rfl gp_18 (vp_in_iff.mpr (by constructor <;> omega)) d_Mpg_conditional_173 (w' := wdP cs h r g tf ta pf243 (va_up (va_up (va_up na244 23 (upd (na244 23) v247.toNatClampNeg z289)) 16 (upd ((va_up na244 23 (upd (na244 23) v247.toNatClampNeg z289)) 16) v247.toNatClampNeg (pf 11))) 17 (upd ((va_up (va_up na244 23 (upd (na244 23) v247.toNatClampNeg z289)) 16 (upd ((va_up na244 23 (upd (na244 23) v247.toNatClampNeg z289)) 16) v247.toNatClampNeg (pf 11))) 17) v247.toNatClampNeg z161)) (va_up ma245 18 (upd (ma245 18) v247.toNatClampNeg v188)) wa223 cf ca ef ea xf xa) (ps' := [wdP cs h r g tf ta pf243 (va_up (va_up (va_up na244 23 (upd (na244 23) v247.toNatClampNeg z289)) 16 (upd ((va_up na244 23 (upd (na244 23) v247.toNatClampNeg z289)) 16) v247.toNatClampNeg (pf 11))) 17 (upd ((va_up (va_up na244 23 (upd (na244 23) v247.toNatClampNeg z289)) 16 (upd ((va_up na244 23 (upd (na244 23) v247.toNatClampNeg z289)) 16) v247.toNatClampNeg (pf 11))) 17) v247.toNatClampNeg z161)) (va_up ma245 18 (upd (ma245 18) v247.toNatClampNeg v188)) wa223 cf ca ef ea xf xa]) sp_18 rfl (fun H locs hw => ?_)
            refine lv_aload_n S.x S.b d_Mpg_conditional_174 rfl (lv_at hl 6 rfl) ?_
            refine px_get S k_Mpg hT hw 0 0 19 (v := .ref (r 19)) rfl rfl rfl (by decide) m10_5 d_Mpg_conditional_175 ?_
            refine lv_iload S.x S.b d_Mpg_conditional_178 (lv_at hl 0 rfl) ?_
            refine lv_iload S.x S.b d_Mpg_conditional_180 (lv_at hl 1 rfl) ?_
            refine lv_if_ge (tgt := 192) S.x S.b d_Mpg_conditional_182 (by decide) (fun c292 => ?_) (fun c292 => ?_)
            · have nc292 : (0 : Int) ≤ v225.toInt := (i_le (x := 0) (y := v225)).mp c292
              exfalso
              omega
            · have nc292 : ¬ (0 : Int) ≤ v225.toInt := mt (i_le (x := 0) (y := v225)).mpr c292
              refine lv_iconst (v := (-1)) S.x S.b d_Mpg_conditional_185 (by decide) ?_
              refine lv_iload S.x S.b d_Mpg_conditional_186 (lv_at hl 1 rfl) ?_
              refine lv_isub S.x S.b d_Mpg_conditional_188 ?_
              refine lv_topi (fun z293 ez293 => ?_)
              have tz293 : z293.toInt = ((-1 : Int) - v225.toInt + 2147483648) % 4294967296 - 2147483648 := by rw [ez293]; exact i_sub (-1) v225
              have lz293 := Int32.le_toInt z293
              have uz293 := Int32.toInt_lt z293
              try replace tz293 : z293.toInt = (-1 : Int) - v225.toInt := by omega
              have hsz293 : z277 = z293 := i_eq.mpr (by omega); subst hsz293
              refine lv_goto (tgt := 194) S.x S.b d_Mpg_conditional_189 (by decide) ?_
              refine px_iast S hT hw 0 15 (n := 2100) (f := ((va_up ma245 18 (upd (ma245 18) v247.toNatClampNeg v188)) 19)) (x := v247) (y := z277) rfl gp_19 (vp_in_iff.mpr (by constructor <;> omega)) d_Mpg_conditional_194 (w' := wdP cs h r g tf ta pf243 (va_up (va_up (va_up na244 23 (upd (na244 23) v247.toNatClampNeg z289)) 16 (upd ((va_up na244 23 (upd (na244 23) v247.toNatClampNeg z289)) 16) v247.toNatClampNeg (pf 11))) 17 (upd ((va_up (va_up na244 23 (upd (na244 23) v247.toNatClampNeg z289)) 16 (upd ((va_up na244 23 (upd (na244 23) v247.toNatClampNeg z289)) 16) v247.toNatClampNeg (pf 11))) 17) v247.toNatClampNeg z161)) (va_up (va_up ma245 18 (upd (ma245 18) v247.toNatClampNeg v188)) 19 (upd ((va_up ma245 18 (upd (ma245 18) v247.toNatClampNeg v188)) 19) v247.toNatClampNeg z277)) wa223 cf ca ef ea xf xa) (ps' := [wdP cs h r g tf ta pf243 (va_up (va_up (va_up na244 23 (upd (na244 23) v247.toNatClampNeg z289)) 16 (upd ((va_up na244 23 (upd (na244 23) v247.toNatClampNeg z289)) 16) v247.toNatClampNeg (pf 11))) 17 (upd ((va_up (va_up na244 23 (upd (na244 23) v247.toNatClampNeg z289)) 16 (upd ((va_up na244 23 (upd (na244 23) v247.toNatClampNeg z289)) 16) v247.toNatClampNeg (pf 11))) 17) v247.toNatClampNeg z161)) (va_up (va_up ma245 18 (upd (ma245 18) v247.toNatClampNeg v188)) 19 (upd ((va_up ma245 18 (upd (ma245 18) v247.toNatClampNeg v188)) 19) v247.toNatClampNeg z277)) wa223 cf ca ef ea xf xa]) sp_19 rfl (fun H locs hw => ?_)
              refine lv_iload S.x S.b d_Mpg_conditional_195 (lv_at hl 0 rfl) ?_
              exact th_iret (v := v247) S hr rfl hlk hAe hw (⟨pf243, (va_up (va_up (va_up na244 23 (upd (na244 23) v247.toNatClampNeg z289)) 16 (upd ((va_up na244 23 (upd (na244 23) v247.toNatClampNeg z289)) 16) v247.toNatClampNeg (pf 11))) 17 (upd ((va_up (va_up na244 23 (upd (na244 23) v247.toNatClampNeg z289)) 16 (upd ((va_up na244 23 (upd (na244 23) v247.toNatClampNeg z289)) 16) v247.toNatClampNeg (pf 11))) 17) v247.toNatClampNeg z161)), (va_up (va_up ma245 18 (upd (ma245 18) v247.toNatClampNeg v188)) 19 (upd ((va_up ma245 18 (upd (ma245 18) v247.toNatClampNeg v188)) 19) v247.toNatClampNeg z277)), wa223, rfl, (show (pf 11).toInt + 1 ≤ (pf243 11).toInt from by omega), (show (pf243 11).toInt < (tf 6).toInt from by omega), (show (pf 13).toInt + 1 ≤ (pf243 13).toInt from by omega), (show (pf243 13).toInt - (pf 13).toInt ≤ (pf243 11).toInt - (pf 11).toInt from by omega), (show bp ta (pf 11) + 1 ≤ bp ta (pf243 11) from by omega), (show (pf243 12).toInt = (pf 12).toInt from by omega), (show (pf243 24).toInt = (pf 24).toInt from by omega), (show (pf243 25).toInt = (pf 25).toInt from by omega), (show (pf243 26).toInt = (pf 26).toInt from by omega), (show FrB (pf 13).toInt na ma (va_up (va_up (va_up na244 23 (upd (na244 23) v247.toNatClampNeg z289)) 16 (upd ((va_up na244 23 (upd (na244 23) v247.toNatClampNeg z289)) 16) v247.toNatClampNeg (pf 11))) 17 (upd ((va_up (va_up na244 23 (upd (na244 23) v247.toNatClampNeg z289)) 16 (upd ((va_up na244 23 (upd (na244 23) v247.toNatClampNeg z289)) 16) v247.toNatClampNeg (pf 11))) 17) v247.toNatClampNeg z161)) (va_up (va_up ma245 18 (upd (ma245 18) v247.toNatClampNeg v188)) 19 (upd ((va_up ma245 18 (upd (ma245 18) v247.toNatClampNeg v188)) 19) v247.toNatClampNeg z277)) from (FrB.um (FrB.um (FrB.un (FrB.un (FrB.un hfb (by omega) (by omega)) (by omega) (by omega)) (by omega) (by omega)) (by omega) (by omega)) (by omega) (by omega))), (show FrW (pf 26).toInt wa wa223 from hfw), (show ExD ta (tf 6).toInt (va_up (va_up (va_up na244 23 (upd (na244 23) v247.toNatClampNeg z289)) 16 (upd ((va_up na244 23 (upd (na244 23) v247.toNatClampNeg z289)) 16) v247.toNatClampNeg (pf 11))) 17 (upd ((va_up (va_up na244 23 (upd (na244 23) v247.toNatClampNeg z289)) 16 (upd ((va_up na244 23 (upd (na244 23) v247.toNatClampNeg z289)) 16) v247.toNatClampNeg (pf 11))) 17) v247.toNatClampNeg z161)) (va_up (va_up ma245 18 (upd (ma245 18) v247.toNatClampNeg v188)) 19 (upd ((va_up ma245 18 (upd (ma245 18) v247.toNatClampNeg v188)) 19) v247.toNatClampNeg z277)) v247 (pf 13).toInt (pf243 13).toInt (3 * (bp ta (pf243 11) - bp ta (pf 11))) (pf 12).toInt from (exd_of (ExR.le (exr_cond (ExR.le ht_z161 (Int.le_refl _) (by omega) (Int.le_refl _) (Int.le_refl _)) (ExR.le ht_v188 (Int.le_refl _) (by omega) (Int.le_refl _) (by omega)) ht_z277 (by omega) (by omega) (fun x hx => ⟨fun j => by rw [up_far hx, up_far hx, up_far hx], fun j => by rw [up_far hx, up_far hx]⟩) (by rw [va_up_n (by decide), va_up_n (by decide), va_up_n (by decide), hnk_v247.1]; rfl) (ndt_of (by rw [va_up_n (by decide), va_up_n (by decide), va_up_n (by decide), hnk_v247.2.1]) (by omega) (by omega) (by omega)) (by rw [va_up_s, pk_us]) (by rw [va_up_n (by decide), va_up_s, pk_us]) (by rw [va_up_s, pk_us]) (by rw [dp_un (by decide), dp_un (by decide), dp_us]; refine ⟨?_, ?_, ?_⟩ <;> omega) (by rw [dp_un (by decide), dp_un (by decide), dp_us]; omega) ⟨(by rw [va_up_n (by decide), va_up_n (by decide), va_up_n (by decide), hnk_v247.2.2.1]; decide), (by rw [va_up_n (by decide), va_up_n (by decide), hnk_v247.2.2.2.2]; decide)⟩ (by omega)) (by omega) (by omega) (by omega) (Int.le_refl _)) (by omega)))⟩) d_Mpg_conditional_197
  · have nc30 : v27.toInt = (0 : Int) := (i_eq (x := v27) (y := 0)).mp c30
    refine lv_iload_n S.x S.b d_Mpg_conditional_19 rfl (lv_at hl 0 rfl) ?_
    exact th_iret (v := v10) S hr rfl hlk hAe hw (⟨pf5, na6, ma7, wa8, rfl, (show (pf 11).toInt + 1 ≤ (pf5 11).toInt from by omega), (show (pf5 11).toInt < (tf 6).toInt from by omega), (show (pf 13).toInt + 1 ≤ (pf5 13).toInt from by omega), (show (pf5 13).toInt - (pf 13).toInt ≤ (pf5 11).toInt - (pf 11).toInt from by omega), (show bp ta (pf 11) + 1 ≤ bp ta (pf5 11) from by omega), (show (pf5 12).toInt = (pf 12).toInt from by omega), (show (pf5 24).toInt = (pf 24).toInt from by omega), (show (pf5 25).toInt = (pf 25).toInt from by omega), (show (pf5 26).toInt = (pf 26).toInt from by omega), (show FrB (pf 13).toInt na ma na6 ma7 from hfb), (show FrW (pf 26).toInt wa wa8 from hfw), (show ExD ta (tf 6).toInt na6 ma7 v10 (pf 13).toInt (pf5 13).toInt (3 * (bp ta (pf5 11) - bp ta (pf 11))) (pf 12).toInt from (ExD.le hxd_v10 (by omega) (by omega) (by omega) (by omega)))⟩) d_Mpg_conditional_20
