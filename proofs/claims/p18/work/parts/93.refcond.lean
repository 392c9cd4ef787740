theorem oz_be39d08caa {a0 a1 a2 a3 a4 a5 : Int} (h0 : a0 < (a1)) (h1 : a1 - a2 ≤ a3 - a4) (h2 : a2 ≤ a4 + 20) (h3 : a3 < a5) (h4 : a5 ≤ 2049) : a0 < 2100 := by omega
theorem oz_bd8959faaf {a0 a1 a2 : Int} (h0 : a0 = a1) (h1 : a2 < (a1)) (h2 : -1 - (a1) < a2) : 0 ≤ a0 := by omega
theorem oz_815a17a6fa {a0 a1 a2 a3 a4 a5 : Int} (h0 : a1 = a2 + 1) (h1 : a0 = a3) (h2 : a3 - a4 ≤ a2 - a5) (h3 : a4 ≤ a5 + 20) : a0 ≤ a1 + 20 := by omega
theorem oz_954c9acc8e {a0 a1 a2 a3 a4 : Int} (h0 : a0 = a1 + 1) (h1 : a2 + 1 ≤ a1) (h2 : 0 ≤ a3) (h3 : a3 + 1 ≤ a4) (h4 : a2 = a4 + 1) : 0 ≤ a0 := by omega
theorem oz_cffcf29412 {a0 a1 a2 a3 a4 a5 : Int} (h0 : a0 = a1) (h1 : a1 = a2) (h2 : a2 = a3 + 1) (h3 : a3 = a4) (h4 : a5 ≤ a4) (h5 : 0 ≤ a5) : 0 ≤ a0 := by omega
theorem oz_51eeb0c7ba {a0 a1 a2 a3 : Int} (h0 : a0 = a1) (h1 : a1 = a2) (h2 : a2 = a3 + 1) (h3 : a3 < 60) : a0 ≤ 60 := by omega
theorem oz_e8098791ea {a0 a1 a2 a3 a4 : Int} (h0 : a0 = a1) (h1 : a2 + 1 ≤ a1) (h2 : a2 = a3) (h3 : a4 < (a3)) (h4 : -1 - (a3) < a4) : 0 ≤ a0 := by omega
theorem oz_301eea1e0b {a0 a1 a2 a3 a4 a5 a6 a7 a8 a9 : Int} (h0 : a1 = a2 + 1) (h1 : a0 = a3) (h2 : a3 - a4 ≤ a2 - a5) (h3 : a6 ≤ a7 + 20) (h4 : a8 - a6 ≤ a9 - a7) (h5 : a5 = a9 + 1) (h6 : a4 = a8) : a0 ≤ a1 + 20 := by omega
theorem oz_00b9fbaef4 {a0 a1 a2 a3 a4 : Int} (h0 : a0 = a1) (h1 : a1 = a2) (h2 : a2 = a3) (h3 : a3 = a4) (h4 : 0 ≤ a4) : 0 ≤ a0 := by omega
theorem oz_3357ca9d54 {a0 a1 a2 a3 a4 a5 a6 a7 a8 a9 : Int} (h0 : a1 = a2) (h1 : a0 = a3) (h2 : a2 = a4) (h3 : a3 = a5) (h4 : a4 = a6 + 1) (h5 : a5 = a7) (h6 : a6 = a8) (h7 : a7 = a9) (h8 : a9 ≤ a8) : a0 ≤ a1 := by omega
theorem oz_54eba00cf9 {a0 a1 : Int} (h0 : a1 < (a0)) (h1 : -1 - (a0) < a1) : 0 ≤ a0 := by omega
theorem oz_4f78757f1c {a0 a1 a2 a3 a4 a5 a6 a7 a8 a9 a10 a11 a12 : Int} (h0 : a0 - a1 ≤ a2 - a3) (h1 : a3 = a4 + 1) (h2 : a1 = a5) (h3 : a2 < a6) (h4 : a6 ≤ 2049) (h5 : a5 - a7 ≤ a4 - a8) (h6 : a9 ≤ a10 + 20) (h7 : a11 - a9 ≤ a12 - a10) (h8 : a8 = a12 + 1) (h9 : a7 = a11) : a0 < 2100 := by omega
theorem oz_0c88cfaf88 {a0 a1 a2 a3 a4 a5 a6 a7 a8 : Int} (h0 : (0 : Int) ≤ a0) (h1 : a0 < (a1)) (h2 : a1 - a2 ≤ a3 - a4) (h3 : a2 ≤ a4 + 20) (h4 : a5 = a3 + 1) (h5 : a6 ≤ 2049) (h6 : a5 + 1 ≤ a7) (h7 : a8 = a7 + 1) (h8 : a8 < a6) : 0 ≤ a0 ∧ a0 < ((2100 : Nat) : Int) := by omega
theorem oz_5801cd9f67 {a0 a1 a2 a3 a4 a5 a6 a7 a8 a9 a10 a11 a12 a13 : Int} (h0 : (0 : Int) ≤ a0) (h1 : a0 < (a1)) (h2 : a1 - a2 ≤ a3 - a4) (h3 : a4 = a5 + 1) (h4 : a2 = a6) (h5 : a3 < a7) (h6 : a7 ≤ 2049) (h7 : a6 - a8 ≤ a5 - a9) (h8 : a10 ≤ a11 + 20) (h9 : a12 - a10 ≤ a13 - a11) (h10 : a9 = a13 + 1) (h11 : a8 = a12) : 0 ≤ a0 ∧ a0 < ((2100 : Nat) : Int) := by omega
theorem oz_a94dab7bd6 {a0 a1 a2 a3 a4 a5 a6 : Int} (h0 : a0 + 1 ≤ a2) (h1 : a1 = a3) (h2 : a4 = a2 + 1) (h3 : a5 + 1 ≤ a3) (h4 : a4 + 1 ≤ a6) (h5 : a5 = a6 + 1) : a0 + 1 ≤ a1 := by omega
theorem oz_51872157b0 {a0 a1 a2 a3 a4 a5 a6 : Int} (h0 : a0 + 1 ≤ a2) (h1 : a1 = a3 + 1) (h2 : a4 = a2) (h3 : a5 + 1 ≤ a3) (h4 : a4 + 1 ≤ a6) (h5 : a5 = a6) : a0 + 1 ≤ a1 := by omega
theorem oz_e4ee09b645 {a0 a1 a2 a3 a4 a5 a6 a7 a8 a9 a10 a11 a12 a13 : Int} (h0 : a4 - a1 ≤ a5 - a3) (h1 : a0 = a6 + 1) (h2 : a2 = a7) (h3 : a8 = a5 + 1) (h4 : a9 = a4) (h5 : a6 - a10 ≤ a7 - a11) (h6 : a12 - a9 ≤ a13 - a8) (h7 : a11 = a13 + 1) (h8 : a10 = a12) : a0 - a1 ≤ a2 - a3 := by omega
theorem oz_5a9929be88 {a0 a1 a2 a3 a4 a5 a6 a7 : Int} (h0 : a0 + 1 ≤ a2) (h1 : a1 = a3) (h2 : a2 + a4 ≤ a5) (h3 : a6 + 1 ≤ a3) (h4 : 1 ≤ a4) (h5 : a5 + 1 ≤ a7) (h6 : a7 + 1 ≤ a6) : a0 + 1 ≤ a1 := by omega
theorem oz_9e0ebf2891 {a0 a1 a2 a3 a4 a5 a6 a7 : Int} (h0 : a2 = a1) (h1 : a0 = a3) (h2 : a4 = a2 + 1) (h3 : a3 = a5 - (1 : Int)) (h4 : a6 = a4) (h5 : a5 = a7) (h6 : a7 = a6) : a0 = a1 := by omega
theorem oz_5aca869617 {a0 a1 a2 a3 a4 a5 a6 a7 a8 a9 a10 a11 a12 a13 a14 : Int} (h0 : a0 = (-1 : Int) - a1) (h1 : ¬ (0 : Int) ≤ a1) (h2 : -1 - (a2) < a1) (h3 : a2 - a3 ≤ a4 - a5) (h4 : a5 = a6 + 1) (h5 : a3 = a7) (h6 : a4 < a8) (h7 : a8 ≤ 2049) (h8 : a7 - a9 ≤ a6 - a10) (h9 : a11 ≤ a12 + 20) (h10 : a13 - a11 ≤ a14 - a12) (h11 : a10 = a14 + 1) (h12 : a9 = a13) : 0 ≤ a0 ∧ a0 < ((2100 : Nat) : Int) := by omega
theorem oz_26151178c9 {a0 a1 : Int} (h0 : a0 = (-1 : Int) - a1) (h1 : ¬ (0 : Int) ≤ a1) : 0 ≤ a0 := by omega
theorem oz_96c024f2ca {a0 a1 a2 a3 a4 a5 a6 : Int} (h0 : a0 = (-1 : Int) - a1) (h1 : -1 - (a2) < a1) (h2 : a2 - a3 ≤ a4 - a5) (h3 : a3 ≤ a5 + 20) (h4 : a4 < a6) (h5 : a6 ≤ 2049) : a0 < 2100 := by omega
theorem oz_25605124ac {a0 a1 a2 a3 a4 a5 a6 a7 a8 a9 a10 : Int} (h0 : a0 = (-1 : Int) - a1) (h1 : ¬ (0 : Int) ≤ a1) (h2 : -1 - (a2) < a1) (h3 : a2 - a3 ≤ a4 - a5) (h4 : a3 ≤ a5 + 20) (h5 : a6 = a4 + 1) (h6 : a7 ≤ 2049) (h7 : a6 + 1 ≤ a8) (h8 : a9 = a8 + 1) (h9 : a10 < a7) (h10 : a9 + 1 ≤ a10) : 0 ≤ a0 ∧ a0 < ((2100 : Nat) : Int) := by omega
theorem m12_15 : Cond.methodLink "HomeSystemModel$Program" 412 ⟨"HomeSystemModel$Program", "binary", "()I"⟩ ∈ AL := AL_12 (List.mem_of_getElem? (i := 15) rfl) rfl
theorem m12_18 : Cond.code ⟨"HomeSystemModel$Program", "binary", "()I"⟩ prog_16_method_37_code 5 (Option.some FieldType.int) ∈ AL := AL_12 (List.mem_of_getElem? (i := 18) rfl) rfl
theorem ms_9_6 : Cond.selects "HomeSystemModel$Program" ⟨"HomeSystemModel$Program", "binary", "()I"⟩ ⟨"HomeSystemModel$Program", "binary", "()I"⟩ ∈ AL := AL_p (q := (⟨"HomeSystemModel$Program", "binary", "()I"⟩, 69)) (by unfold lw_privs; exact List.mem_append_right _ (List.mem_append_right _ (List.mem_append_right _ (List.mem_append_right _ (List.mem_append_right _ (List.mem_append_right _ (List.mem_append_right _ (List.mem_append_right _ (List.mem_append_left _ (List.mem_of_getElem? (i := 6) rfl))))))))))
theorem m12_17 : Cond.instanceMethod ⟨"HomeSystemModel$Program", "binary", "()I"⟩ ∈ AL := AL_12 (List.mem_of_getElem? (i := 17) rfl) rfl
theorem m12_11 : Cond.methodLink "HomeSystemModel$Program" 393 ⟨"HomeSystemModel$Program", "conditional", "()I"⟩ ∈ AL := AL_12 (List.mem_of_getElem? (i := 11) rfl) rfl
theorem m12_14 : Cond.code ⟨"HomeSystemModel$Program", "conditional", "()I"⟩ prog_16_method_32_code 7 (Option.some FieldType.int) ∈ AL := AL_12 (List.mem_of_getElem? (i := 14) rfl) rfl
theorem ms_9_5 : Cond.selects "HomeSystemModel$Program" ⟨"HomeSystemModel$Program", "conditional", "()I"⟩ ⟨"HomeSystemModel$Program", "conditional", "()I"⟩ ∈ AL := AL_p (q := (⟨"HomeSystemModel$Program", "conditional", "()I"⟩, 69)) (by unfold lw_privs; exact List.mem_append_right _ (List.mem_append_right _ (List.mem_append_right _ (List.mem_append_right _ (List.mem_append_right _ (List.mem_append_right _ (List.mem_append_right _ (List.mem_append_right _ (List.mem_append_left _ (List.mem_of_getElem? (i := 5) rfl))))))))))
theorem m12_13 : Cond.instanceMethod ⟨"HomeSystemModel$Program", "conditional", "()I"⟩ ∈ AL := AL_12 (List.mem_of_getElem? (i := 13) rfl) rfl
set_option maxHeartbeats 4000000 in
set_option maxRecDepth 100000 in
theorem c_mp_conditional (l : Launch) (D : va_G) (cs : Nat → ClassId) (h : Nat) (r : Nat → Nat) (g : Nat → Nat → Option Nat) (tf : Nat → Int32) (ta : Nat → Nat → Int32) (cf : Nat → Int32) (ca : Nat → Nat → Int32) (ef : Nat → Int32) (ea : Nat → Nat → Int32) (xf : Nat → Int32) (xa : Nat → Nat → Int32) (pf : Nat → Int32) (na : Nat → Nat → Int32) (ma : Nat → Nat → Int32) (wa : Nat → Nat → Int32) (lv : Nat) (g0 : 0 ≤ (pf 11).toInt) (g1 : (pf 11).toInt < (tf 6).toInt) (g2 : (tf 6).toInt ≤ 2049) (g3 : 0 ≤ (pf 12).toInt) (g4 : (pf 12).toInt ≤ 60) (g5 : 0 ≤ (pf 13).toInt) (g6 : (pf 13).toInt ≤ (pf 11).toInt + 20) (g7 : 0 ≤ (pf 26).toInt) (g8 : (pf 26).toInt ≤ (pf 12).toInt) (g9 : 61 ≤ (pf 12).toInt + (lv : Int)) (g10 : lv ≤ 61) (hlf : l.flags = pinnedFlags ++ [noTraceFlag]) (htk : TkI tf ta) (hfs : FsI (tf 6).toInt (pf 13).toInt na) (hE : LvE l D cs lv) : ThI l y_Mpg_conditional b_Mpg_conditional 7 (.int) D cs (8 * lv + 19) (220 * lv + 690) [.ref h] [wdP cs h r g tf ta pf na ma wa cf ca ef ea xf xa] (oX (fun A U H => (oN A U H) ∧ (oP A g U H)) [wdP cs h r g tf ta pf na ma wa cf ca ef ea xf xa]) "java/lang/IllegalArgumentException" (fun v ps => ∃ (pf' : Nat → Int32) (na' : Nat → Nat → Int32) (ma' : Nat → Nat → Int32) (wa' : Nat → Nat → Int32), (ps = [wdP cs h r g tf ta pf' na' ma' wa' cf ca ef ea xf xa]) ∧ ((pf 11).toInt + 1 ≤ (pf' 11).toInt) ∧ ((pf' 11).toInt < (tf 6).toInt) ∧ ((pf 13).toInt + 1 ≤ (pf' 13).toInt) ∧ ((pf' 13).toInt - (pf 13).toInt ≤ (pf' 11).toInt - (pf 11).toInt) ∧ (bp ta (pf 11) + 1 ≤ bp ta (pf' 11)) ∧ ((pf' 12).toInt = (pf 12).toInt) ∧ ((pf' 24).toInt = (pf 24).toInt) ∧ ((pf' 25).toInt = (pf 25).toInt) ∧ ((pf' 26).toInt = (pf 26).toInt) ∧ (FrB (pf 13).toInt na ma na' ma') ∧ (FrW (pf 26).toInt wa wa') ∧ (ExD ta (tf 6).toInt na' ma' v (pf 13).toInt (pf' 13).toInt (3 * (bp ta (pf' 11) - bp ta (pf 11))) (pf 12).toInt) ∧ (FsI (tf 6).toInt (pf' 13).toInt na')) (fun ps => ∃ (pf' : Nat → Int32) (na' : Nat → Nat → Int32) (ma' : Nat → Nat → Int32) (wa' : Nat → Nat → Int32), ps = [wdP cs h r g tf ta pf' na' ma' wa' cf ca ef ea xf xa] ∧ 0 ≤ (pf' 11).toInt ∧ (pf' 11).toInt + 1 ≤ (tf 6).toInt) := by
  refine th_enter (by decide) (Nat.le_of_ble_eq_true rfl) ?_
  intro p e s m below meth c A ls hAe S hr hlk hnm hA hT hX hw hl hne hadm
  have hl : lv_has ls 7 [(0, .ref h)] := hl
  have cstm1 : ((-1) : Int32).toInt = (-1) := rfl
  have cst1 : (1 : Int32).toInt = 1 := rfl
  have cst8 : (8 : Int32).toInt = 8 := rfl
  have hX : (fun A U H => (oN A U H) ∧ (oP A g U H)) A s s.heap := by rw [hAe]; exact hX
  obtain ⟨hN, hP⟩ := hX
  have hZ := hP.1
  have hF0 := hP.2.1
  have hfb : FrB (pf 13).toInt na ma na ma := FrB.rf
  have hfw : FrW (pf 26).toInt wa wa := FrW.rf
  refine lv_aload_n S.x S.b d_Mpg_conditional_0 rfl (lv_at hl 0 rfl) ?_
  refine px_get S k_Mpg hT hw 0 0 11 (v := .int (pf 11)) rfl rfl rfl (by decide) m9_235 d_Mpg_conditional_1 ?_
  refine lv_istore_n (lv' := [(1, .int (pf 11)), (0, .ref h)]) S.x S.b d_Mpg_conditional_4 rfl hl (by decide) rfl (fun ls hl => ?_)
  refine lv_aload_n S.x S.b d_Mpg_conditional_5 rfl (lv_at hl 1 rfl) ?_
  refine th_calli (ps0 := [wdP cs h r g tf ta pf na ma wa cf ca ef ea xf xa]) (pr := []) (pcs := [wdP cs h r g tf ta pf na ma wa cf ca ef ea xf xa]) (As := []) (rest := []) (c_mp_binary l D cs h r g tf ta cf ca ef ea xf xa pf na ma wa  lv (show 0 ≤ (pf 11).toInt from by first | exact g0 | omega) (show (pf 11).toInt < (tf 6).toInt from by first | exact g1 | omega) (show (tf 6).toInt ≤ 2049 from by first | exact g2 | omega) (show 0 ≤ (pf 12).toInt from by first | exact g3 | omega) (show (pf 12).toInt ≤ 60 from by first | exact g4 | omega) (show 0 ≤ (pf 13).toInt from by first | exact g5 | omega) (show (pf 13).toInt ≤ (pf 11).toInt + 20 from by first | exact g6 | omega) (show 0 ≤ (pf 26).toInt from by first | exact g7 | omega) (show (pf 26).toInt ≤ (pf 12).toInt from by first | exact g8 | omega) (show 61 ≤ (pf 12).toInt + (lv : Int) from by first | exact g9 | omega) (show lv ≤ 61 from by first | exact g10 | omega) hlf htk (FsI.le (N' := (pf 13).toInt) hfs (by first | with_reducible rfl | with_reducible assumption | omega)) hE) S hT hw (oX_call (P := (fun A U H => (oN A U H) ∧ (oP A g U H))) (pr := []) (oG_and oG_N oG_P) hw hA ⟨hN, hP⟩) (px_recv hT hw 0 0 rfl rfl rfl) m12_18 m12_15 m12_17 ms_9_6 m1_21 q_Mpg_binary ⟨show (8 * lv + 18) + 1 ≤ (8 * lv + 19) from by first | with_reducible rfl | with_reducible assumption | omega, show 8 + (5 + 11) + (220 * lv + 660) ≤ (220 * lv + 690) from by first | with_reducible rfl | with_reducible assumption | omega⟩ hl.1 rfl (Nat.le_of_ble_eq_true rfl) d_Mpg_conditional_6 ⟨Nat.le_of_ble_eq_true rfl, Nat.le_of_ble_eq_true rfl⟩ hne hlk hA hAe (fun o t h => Or.inr h) ?_ (fun v10 p9 H locs hp9 hw => ?_)
  · exact fun p1 H1 locs1 hp hw => by obtain ⟨pq1, pq2, pq3, pq4, rfl, hq1, hq2⟩ := hp; exact ⟨_, ⟨pq1, pq2, pq3, pq4, rfl, hq1, hq2⟩, hw⟩
  obtain ⟨pf5, na6, ma7, wa8, rfl, e11, e12, e13, e14, e15, e16, e17, e18, e19, e20, e21, e22, e23⟩ := hp9
  have e11 : (pf 11).toInt + 1 ≤ (pf5 11).toInt := e11
  have e12 : (pf5 11).toInt < (tf 6).toInt := e12
  have e13 : (pf 13).toInt + 1 ≤ (pf5 13).toInt := e13
  have e14 : (pf5 13).toInt - (pf 13).toInt ≤ (pf5 11).toInt - (pf 11).toInt := e14
  have e15 : bp ta (pf 11) + 1 ≤ bp ta (pf5 11) := e15
  have e16 : (pf5 12).toInt = (pf 12).toInt := e16
  have e17 : (pf5 24).toInt = (pf 24).toInt := e17
  have e18 : (pf5 25).toInt = (pf 25).toInt := e18
  have e19 : (pf5 26).toInt = (pf 26).toInt := e19
  have e20 : FrB (pf 13).toInt na ma na6 ma7 := e20
  have hfb := hfb.tr e20 (by first | with_reducible rfl | with_reducible assumption | omega)
  have e21 : FrW (pf 26).toInt wa wa8 := e21
  have hfw := hfw.tr e21 (by first | with_reducible rfl | with_reducible assumption | omega)
  have e22 : ExD ta (tf 6).toInt na6 ma7 v10 (pf 13).toInt (pf5 13).toInt (3 * (bp ta (pf5 11) - bp ta (pf 11))) (pf 12).toInt := e22
  have hxd_v10 := e22
  have hnx_v10 := hxd_v10.num
  have e23 : FsI (tf 6).toInt (pf5 13).toInt na6 := e23
  have hfs := e23
  have hw : pw D A s.heap H locs [wdP cs h r g tf ta pf5 na6 ma7 wa8 cf ca ef ea xf xa] := hw
  have lv10 := Int32.le_toInt v10
  have uv10 := Int32.toInt_lt v10
  refine lv_istore_n (lv' := [(2, .int v10), (1, .int (pf 11)), (0, .ref h)]) S.x S.b d_Mpg_conditional_9 rfl hl (by decide) rfl (fun ls hl => ?_)
  refine lv_aload_n S.x S.b d_Mpg_conditional_10 rfl (lv_at hl 2 rfl) ?_
  obtain ⟨sk24, hRsk24, st25, sb26, hSsk24⟩ := oP_lit hP (k := 105) (tx := "?") (n := 1) (List.mem_of_getElem? (i := 44) rfl)
  refine va_ldcS S.x S.b S.own hRsk24 d_Mpg_conditional_11 ?_
  refine px_calli (pr := []) (px_runV (As := [.ref sk24]) (rest := []) S (c_mp_is l D cs sk24 1 h r g tf ta pf5 na6 ma7 wa8 cf ca ef ea xf xa   (show 0 ≤ (pf5 11).toInt from by first | exact oz_06d7f15a5c e11 g0 | omega) (show (pf5 11).toInt < (tf 6).toInt from by first | exact e12 | omega) (show (tf 6).toInt ≤ 2049 from by first | exact g2 | omega) (show 1 ≤ 100 from by first | decide | omega) htk _) hT (pr := []) (pcs := [wdP cs h r g tf ta pf5 na6 ma7 wa8 cf ca ef ea xf xa]) hw (oX_call (P := (fun A U H => (oP A g U H) ∧ (StS A sk24 1 U H))) (pr := []) (oG_and oG_P oG_Q) hw hA ⟨hP, ⟨_, _, hSsk24⟩⟩) (px_recv hT hw 0 0 rfl rfl rfl) m11_217 m11_214 m11_216 ms_8_14 m1_21 q_Mpg_is ⟨show 3 + 1 ≤ (8 * lv + 19) from by first | with_reducible rfl | with_reducible assumption | omega, show 8 + (2 + 11) + 120 ≤ (220 * lv + 690) from by first | with_reducible rfl | with_reducible assumption | omega⟩ hl.1 rfl (Nat.le_of_ble_eq_true rfl) d_Mpg_conditional_13 ⟨Nat.le_of_ble_eq_true rfl, Nat.le_of_ble_eq_true rfl⟩) hw hA (fun v28 p27 H locs hp27 hw => ?_)
  obtain ⟨rfl, e29, e30⟩ := hp27
  have e29 := z_rng e29
  have e30 : v28.toInt = 1 → (pf5 11).toInt + 1 < (tf 6).toInt ∧ so ta (pf5 11) = 5 := e30
  have hw : pw D A s.heap H locs [wdP cs h r g tf ta pf5 na6 ma7 wa8 cf ca ef ea xf xa] := hw
  have lv28 := Int32.le_toInt v28
  have uv28 := Int32.toInt_lt v28
  refine lv_if_ne (tgt := 21) S.x S.b d_Mpg_conditional_16 (by decide) (fun c31 => ?_) (fun c31 => ?_)
  · have nc31 : ¬ v28.toInt = (0 : Int) := mt (i_eq (x := v28) (y := 0)).mpr c31
    refine lv_aload_n S.x S.b d_Mpg_conditional_21 rfl (lv_at hl 2 rfl) ?_
    refine px_get S k_Mpg hT hw 0 0 11 (v := .int (pf5 11)) rfl rfl rfl (by decide) m9_235 d_Mpg_conditional_22 ?_
    refine lv_istore_n (lv' := [(3, .int (pf5 11)), (2, .int v10), (1, .int (pf 11)), (0, .ref h)]) S.x S.b d_Mpg_conditional_25 rfl hl (by decide) rfl (fun ls hl => ?_)
    refine lv_aload_n S.x S.b d_Mpg_conditional_26 rfl (lv_at hl 3 rfl) ?_
    refine lv_iload_n S.x S.b d_Mpg_conditional_27 rfl (lv_at hl 1 rfl) ?_
    refine lv_if_ge (tgt := 37) S.x S.b d_Mpg_conditional_28 (by decide) (fun c32 => ?_) (fun c32 => ?_)
    · have nc32 : (0 : Int) ≤ v10.toInt := (i_le (x := 0) (y := v10)).mp c32
      refine lv_iload_n S.x S.b d_Mpg_conditional_37 rfl (lv_at hl 1 rfl) ?_
      have ht_v10 := hxd_v10.pos (by first | with_reducible rfl | with_reducible assumption | omega); have hn_ht_v10 := ht_v10.num
      refine th_callv (ps0 := [wdP cs h r g tf ta pf na ma wa cf ca ef ea xf xa]) (pr := []) (pcs := [wdP cs h r g tf ta pf5 na6 ma7 wa8 cf ca ef ea xf xa]) (As := [.int v10]) (rest := []) (c_mp_stands l D cs h r g tf ta pf5 na6 ma7 wa8 cf ca ef ea xf xa v10  (show 0 ≤ (pf5 11).toInt from by first | exact oz_06d7f15a5c e11 g0 | omega) (show (pf5 11).toInt < (tf 6).toInt from by first | exact e12 | omega) (show 0 ≤ v10.toInt from by first | exact oz_0ffba53c78 nc32 | omega) (show v10.toInt < 2100 from by first | exact oz_be39d08caa hnx_v10.1 e14 g6 e12 g2 | omega) (show 0 ≤ dp na6 v10 from by first | with_reducible rfl | with_reducible assumption | omega) (show dp na6 v10 ≤ 1000 from by first | with_reducible rfl | with_reducible assumption | omega) (show 0 ≤ (pf5 12).toInt from by first | exact oz_f3ebed1ad0 e16 g3 | omega) (show (pf5 12).toInt ≤ 60 from by first | exact oz_a3db38fa3c e16 g4 | omega) hlf htk) S hT hw (oX_call (P := (fun A U H => (oN A U H) ∧ (oP A g U H))) (pr := []) (oG_and oG_N oG_P) hw hA ⟨hN, hP⟩) (px_recv hT hw 0 0 rfl rfl rfl) m12_46 m12_43 m12_45 ms_9_13 m1_21 q_Mpg_stands2 ⟨show 7 + 1 ≤ (8 * lv + 19) from by first | with_reducible rfl | with_reducible assumption | omega, show 8 + (2 + 11) + 150 ≤ (220 * lv + 690) from by first | with_reducible rfl | with_reducible assumption | omega⟩ hl.1 rfl (Nat.le_of_ble_eq_true rfl) d_Mpg_conditional_38 ⟨Nat.le_of_ble_eq_true rfl, Nat.le_of_ble_eq_true rfl⟩ hne hlk hA hAe (fun o t h => Or.inr h) ?_ (fun p33 H locs hp33 hw => ?_)
      · exact fun p1 H1 locs1 hp hw => by obtain ⟨pq1, pq2, pq3, pq4, rfl, hq1, hq2⟩ := hp; exact ⟨_, ⟨pq1, pq2, pq3, pq4, rfl, hq1, hq2⟩, hw⟩
      obtain ⟨rfl, e35⟩ := hp33
      have e35 : (pf5 12).toInt + dp na6 v10 < 60 := e35
      have hw : pw D A s.heap H locs [wdP cs h r g tf ta pf5 na6 ma7 wa8 cf ca ef ea xf xa] := hw
      refine lv_aload_n S.x S.b d_Mpg_conditional_41 rfl (lv_at hl 3 rfl) ?_
      refine th_callv (ps0 := [wdP cs h r g tf ta pf na ma wa cf ca ef ea xf xa]) (pr := []) (pcs := [wdP cs h r g tf ta pf5 na6 ma7 wa8 cf ca ef ea xf xa]) (As := []) (rest := []) (c_mp_opens l D cs h r g tf ta na6 ma7 wa8 cf ca ef ea xf xa pf5   (show 0 ≤ (pf5 11).toInt from by first | exact oz_06d7f15a5c e11 g0 | omega) (show (pf5 11).toInt < (tf 6).toInt from by first | exact e12 | omega) (show (tf 6).toInt ≤ 2049 from by first | exact g2 | omega) (show (pf5 11).toInt + 1 < (tf 6).toInt from by first | with_reducible rfl | with_reducible assumption | omega) (show 0 ≤ (pf5 12).toInt from by first | exact oz_f3ebed1ad0 e16 g3 | omega) (show (pf5 12).toInt ≤ 60 from by first | exact oz_a3db38fa3c e16 g4 | omega) hlf htk) S hT hw (oX_call (P := (fun A U H => (oN A U H) ∧ (oP A g U H))) (pr := []) (oG_and oG_N oG_P) hw hA ⟨hN, hP⟩) (px_recv hT hw 0 0 rfl rfl rfl) m11_238 m11_235 m11_237 ms_9_1 m1_21 q_Mpg_opens ⟨show 7 + 1 ≤ (8 * lv + 19) from by first | with_reducible rfl | with_reducible assumption | omega, show 8 + (1 + 11) + 150 ≤ (220 * lv + 690) from by first | with_reducible rfl | with_reducible assumption | omega⟩ hl.1 rfl (Nat.le_of_ble_eq_true rfl) d_Mpg_conditional_42 ⟨Nat.le_of_ble_eq_true rfl, Nat.le_of_ble_eq_true rfl⟩ hne hlk hA hAe (fun o t h => Or.inr h) ?_ (fun p38 H locs hp38 hw => ?_)
      · exact fun p1 H1 locs1 hp hw => by obtain ⟨pq1, pq2, pq3, pq4, rfl, hq1, hq2⟩ := hp; exact ⟨_, ⟨pq1, pq2, pq3, pq4, rfl, hq1, hq2⟩, hw⟩
      obtain ⟨pf37, rfl, e40, e41, e42, e43, e44, e45, e46, e47, e48, e49⟩ := hp38
      have e40 : (pf37 11).toInt = (pf5 11).toInt + 1 := e40
      have e41 : (pf37 11).toInt < (tf 6).toInt := e41
      have e42 : bp ta (pf5 11) + sz ta (pf5 11) ≤ bp ta (pf37 11) := e42
      have e43 : 1 ≤ sz ta (pf5 11) := e43
      have e44 : (pf37 12).toInt = (pf5 12).toInt + 1 := e44
      have e45 : (pf5 12).toInt < 60 := e45
      have e46 : (pf37 13).toInt = (pf5 13).toInt := e46
      have e47 : (pf37 24).toInt = (pf5 24).toInt := e47
      have e48 : (pf37 25).toInt = (pf5 25).toInt := e48
      have e49 : (pf37 26).toInt = (pf5 26).toInt := e49
      have hw : pw D A s.heap H locs [wdP cs h r g tf ta pf37 na6 ma7 wa8 cf ca ef ea xf xa] := hw
      refine lv_aload_n S.x S.b d_Mpg_conditional_45 rfl (lv_at hl 3 rfl) ?_
      refine th_calli (ps0 := [wdP cs h r g tf ta pf na ma wa cf ca ef ea xf xa]) (pr := []) (pcs := [wdP cs h r g tf ta pf37 na6 ma7 wa8 cf ca ef ea xf xa]) (As := []) (rest := []) ((hE.go (by first | with_reducible rfl | with_reducible assumption | omega)).1 h r g tf ta cf ca ef ea xf xa pf37 na6 ma7 wa8   (show 0 ≤ (pf37 11).toInt from by first | exact oz_184ed96a99 e40 e11 g0 | omega) (show (pf37 11).toInt < (tf 6).toInt from by first | exact e41 | omega) (show (tf 6).toInt ≤ 2049 from by first | exact g2 | omega) (show 0 ≤ (pf37 12).toInt from by first | exact oz_87be06313f e44 e16 g8 g7 | omega) (show (pf37 12).toInt ≤ 60 from by first | exact oz_6710fd9021 e44 e45 | omega) (show 0 ≤ (pf37 13).toInt from by first | exact oz_bd8959faaf e46 hnx_v10.1 hnx_v10.2 | omega) (show (pf37 13).toInt ≤ (pf37 11).toInt + 20 from by first | exact oz_815a17a6fa e40 e46 e14 g6 | omega) (show 0 ≤ (pf37 26).toInt from by first | exact oz_e2fef14871 e49 e19 g7 | omega) (show (pf37 26).toInt ≤ (pf37 12).toInt from by first | exact oz_e919e29b70 e44 e49 e16 e19 g8 | omega) (show 61 ≤ (pf37 12).toInt + ((lv - 1 : Nat) : Int) from by first | with_reducible rfl | with_reducible assumption | omega) (show lv - 1 ≤ 61 from by first | with_reducible rfl | with_reducible assumption | omega) hlf htk (FsI.le (N' := (pf37 13).toInt) hfs (by first | with_reducible rfl | with_reducible assumption | omega))) S hT hw (oX_call (P := (fun A U H => (oN A U H) ∧ (oP A g U H))) (pr := []) (oG_and oG_N oG_P) hw hA ⟨hN, hP⟩) (px_recv hT hw 0 0 rfl rfl rfl) m12_38 m12_35 m12_37 ms_9_11 m1_21 q_Mpg_expression ⟨show (8 * (lv - 1) + 20) + 1 ≤ (8 * lv + 19) from by first | with_reducible rfl | with_reducible assumption | omega, show 8 + (7 + 11) + (220 * (lv - 1) + 720) ≤ (220 * lv + 690) from by first | with_reducible rfl | with_reducible assumption | omega⟩ hl.1 rfl (Nat.le_of_ble_eq_true rfl) d_Mpg_conditional_46 ⟨Nat.le_of_ble_eq_true rfl, Nat.le_of_ble_eq_true rfl⟩ hne hlk hA hAe (fun o t h => Or.inr h) ?_ (fun v59 p58 H locs hp58 hw => ?_)
      · exact fun p1 H1 locs1 hp hw => by obtain ⟨pq1, pq2, pq3, pq4, rfl, hq1, hq2⟩ := hp; exact ⟨_, ⟨pq1, pq2, pq3, pq4, rfl, hq1, hq2⟩, hw⟩
      obtain ⟨pf54, na55, ma56, wa57, rfl, e60, e61, e62, e63, e64, e65, e66, e67, e68, e69, e70, e71, e72⟩ := hp58
      have e60 : (pf37 11).toInt + 1 ≤ (pf54 11).toInt := e60
      have e61 : (pf54 11).toInt < (tf 6).toInt := e61
      have e62 : (pf37 13).toInt + 1 ≤ (pf54 13).toInt := e62
      have e63 : (pf54 13).toInt - (pf37 13).toInt ≤ (pf54 11).toInt - (pf37 11).toInt := e63
      have e64 : bp ta (pf37 11) + 1 ≤ bp ta (pf54 11) := e64
      have e65 : (pf54 12).toInt = (pf37 12).toInt := e65
      have e66 : (pf54 24).toInt = (pf37 24).toInt := e66
      have e67 : (pf54 25).toInt = (pf37 25).toInt := e67
      have e68 : (pf54 26).toInt = (pf37 26).toInt := e68
      have e69 : FrB (pf37 13).toInt na6 ma7 na55 ma56 := e69
      have ht_v10 := ht_v10.kp (FrB.le e69 (by first | with_reducible rfl | with_reducible assumption | omega)) (by first | with_reducible rfl | with_reducible assumption | omega)
      have hn_ht_v10 := ht_v10.num
      have hdq_v10 := dp_fb (x := v10) e69 (by first | with_reducible rfl | with_reducible assumption | omega) (by first | with_reducible rfl | with_reducible assumption | omega)
      have hxd_v10 := hxd_v10.kp (FrB.le e69 (by first | with_reducible rfl | with_reducible assumption | omega)) (by first | with_reducible rfl | with_reducible assumption | omega)
      have hfb := hfb.tr e69 (by first | with_reducible rfl | with_reducible assumption | omega)
      have e70 : FrW (pf37 26).toInt wa8 wa57 := e70
      have hfw := hfw.tr e70 (by first | with_reducible rfl | with_reducible assumption | omega)
      have e71 : ExR ta (tf 6).toInt na55 ma56 v59 (pf37 13).toInt (pf54 13).toInt (3 * (bp ta (pf54 11) - bp ta (pf37 11))) (pf37 12).toInt := e71
      have ht_v59 := e71
      have hn_ht_v59 := ht_v59.num
      have e72 : FsI (tf 6).toInt (pf54 13).toInt na55 := e72
      have hfs := e72
      have hw : pw D A s.heap H locs [wdP cs h r g tf ta pf54 na55 ma56 wa57 cf ca ef ea xf xa] := hw
      have lv59 := Int32.le_toInt v59
      have uv59 := Int32.toInt_lt v59
      refine lv_istore (lv' := [(4, .int v59), (3, .int (pf5 11)), (2, .int v10), (1, .int (pf 11)), (0, .ref h)]) S.x S.b d_Mpg_conditional_49 hl (by decide) rfl (fun ls hl => ?_)
      refine lv_aload_n S.x S.b d_Mpg_conditional_51 rfl (lv_at hl 4 rfl) ?_
      obtain ⟨sk73, hRsk73, st74, sb75, hSsk73⟩ := oP_lit hP (k := 103) (tx := ":") (n := 1) (List.mem_of_getElem? (i := 43) rfl)
      refine va_ldcS S.x S.b S.own hRsk73 d_Mpg_conditional_52 ?_
      refine th_callv (ps0 := [wdP cs h r g tf ta pf na ma wa cf ca ef ea xf xa]) (pr := []) (pcs := [wdP cs h r g tf ta pf54 na55 ma56 wa57 cf ca ef ea xf xa]) (As := [.ref sk73]) (rest := []) (c_mp_take l D cs sk73 1 h r g tf ta na55 ma56 wa57 cf ca ef ea xf xa pf54   (show 0 ≤ (pf54 11).toInt from by first | exact oz_06fa2c383c e60 e40 g0 e11 | omega) (show (pf54 11).toInt < (tf 6).toInt from by first | exact e61 | omega) (show (tf 6).toInt ≤ 2049 from by first | exact g2 | omega) (show 1 ≤ 100 from by first | decide | omega) hlf htk) S hT hw (oX_call (P := (fun A U H => (oN A U H) ∧ (oP A g U H) ∧ (StS A sk73 1 U H))) (pr := []) (oG_and oG_N (oG_and oG_P oG_Q)) hw hA ⟨hN, hP, ⟨_, _, hSsk73⟩⟩) (px_recv hT hw 0 0 rfl rfl rfl) m12_57 m12_54 m12_56 ms_9_15 m1_21 q_Mpg_take ⟨show 7 + 1 ≤ (8 * lv + 19) from by first | with_reducible rfl | with_reducible assumption | omega, show 8 + (2 + 11) + 230 ≤ (220 * lv + 690) from by first | with_reducible rfl | with_reducible assumption | omega⟩ hl.1 rfl (Nat.le_of_ble_eq_true rfl) d_Mpg_conditional_54 ⟨Nat.le_of_ble_eq_true rfl, Nat.le_of_ble_eq_true rfl⟩ hne hlk hA hAe (fun o t h => Or.inr h) ?_ (fun p78 H locs hp78 hw => ?_)
      · exact fun p1 H1 locs1 hp hw => by obtain ⟨pq1, pq2, pq3, pq4, rfl, hq1, hq2⟩ := hp; exact ⟨_, ⟨pq1, pq2, pq3, pq4, rfl, hq1, hq2⟩, hw⟩
      obtain ⟨pf77, rfl, e80, e81, e82, e83, e84, e85, e86, e87⟩ := hp78
      have e80 : (pf77 11).toInt = (pf54 11).toInt + 1 := e80
      have e81 : (pf77 11).toInt < (tf 6).toInt := e81
      have e82 : bp ta (pf54 11) + 1 ≤ bp ta (pf77 11) := e82
      have e83 : (pf77 12).toInt = (pf54 12).toInt := e83
      have e84 : (pf77 13).toInt = (pf54 13).toInt := e84
      have e85 : (pf77 24).toInt = (pf54 24).toInt := e85
      have e86 : (pf77 25).toInt = (pf54 25).toInt := e86
      have e87 : (pf77 26).toInt = (pf54 26).toInt := e87
      have hw : pw D A s.heap H locs [wdP cs h r g tf ta pf77 na55 ma56 wa57 cf ca ef ea xf xa] := hw
      refine lv_aload_n S.x S.b d_Mpg_conditional_57 rfl (lv_at hl 4 rfl) ?_
      refine th_calli (ps0 := [wdP cs h r g tf ta pf na ma wa cf ca ef ea xf xa]) (pr := []) (pcs := [wdP cs h r g tf ta pf77 na55 ma56 wa57 cf ca ef ea xf xa]) (As := []) (rest := []) ((hE.go (by first | with_reducible rfl | with_reducible assumption | omega)).2 h r g tf ta cf ca ef ea xf xa pf77 na55 ma56 wa57   (show 0 ≤ (pf77 11).toInt from by first | exact oz_954c9acc8e e80 e60 g0 e11 e40 | omega) (show (pf77 11).toInt < (tf 6).toInt from by first | exact e81 | omega) (show (tf 6).toInt ≤ 2049 from by first | exact g2 | omega) (show 0 ≤ (pf77 12).toInt from by first | exact oz_cffcf29412 e83 e65 e44 e16 g8 g7 | omega) (show (pf77 12).toInt ≤ 60 from by first | exact oz_51eeb0c7ba e83 e65 e44 e45 | omega) (show 0 ≤ (pf77 13).toInt from by first | exact oz_e8098791ea e84 e62 e46 hnx_v10.1 hnx_v10.2 | omega) (show (pf77 13).toInt ≤ (pf77 11).toInt + 20 from by first | exact oz_301eea1e0b e80 e84 e63 g6 e14 e40 e46 | omega) (show 0 ≤ (pf77 26).toInt from by first | exact oz_00b9fbaef4 e87 e68 e49 e19 g7 | omega) (show (pf77 26).toInt ≤ (pf77 12).toInt from by first | exact oz_3357ca9d54 e83 e87 e65 e68 e44 e49 e16 e19 g8 | omega) (show 61 ≤ (pf77 12).toInt + ((lv - 1 : Nat) : Int) from by first | with_reducible rfl | with_reducible assumption | omega) (show lv - 1 ≤ 61 from by first | with_reducible rfl | with_reducible assumption | omega) hlf htk (FsI.le (N' := (pf77 13).toInt) hfs (by first | with_reducible rfl | with_reducible assumption | omega))) S hT hw (oX_call (P := (fun A U H => (oN A U H) ∧ (oP A g U H))) (pr := []) (oG_and oG_N oG_P) hw hA ⟨hN, hP⟩) (px_recv hT hw 0 0 rfl rfl rfl) m12_14 m12_11 m12_13 ms_9_5 m1_21 q_Mpg_conditional ⟨show (8 * (lv - 1) + 19) + 1 ≤ (8 * lv + 19) from by first | with_reducible rfl | with_reducible assumption | omega, show 8 + (7 + 11) + (220 * (lv - 1) + 690) ≤ (220 * lv + 690) from by first | with_reducible rfl | with_reducible assumption | omega⟩ hl.1 rfl (Nat.le_of_ble_eq_true rfl) d_Mpg_conditional_58 ⟨Nat.le_of_ble_eq_true rfl, Nat.le_of_ble_eq_true rfl⟩ hne hlk hA hAe (fun o t h => Or.inr h) ?_ (fun v97 p96 H locs hp96 hw => ?_)
      · exact fun p1 H1 locs1 hp hw => by obtain ⟨pq1, pq2, pq3, pq4, rfl, hq1, hq2⟩ := hp; exact ⟨_, ⟨pq1, pq2, pq3, pq4, rfl, hq1, hq2⟩, hw⟩
      obtain ⟨pf92, na93, ma94, wa95, rfl, e98, e99, e100, e101, e102, e103, e104, e105, e106, e107, e108, e109, e110⟩ := hp96
      have e98 : (pf77 11).toInt + 1 ≤ (pf92 11).toInt := e98
      have e99 : (pf92 11).toInt < (tf 6).toInt := e99
      have e100 : (pf77 13).toInt + 1 ≤ (pf92 13).toInt := e100
      have e101 : (pf92 13).toInt - (pf77 13).toInt ≤ (pf92 11).toInt - (pf77 11).toInt := e101
      have e102 : bp ta (pf77 11) + 1 ≤ bp ta (pf92 11) := e102
      have e103 : (pf92 12).toInt = (pf77 12).toInt := e103
      have e104 : (pf92 24).toInt = (pf77 24).toInt := e104
      have e105 : (pf92 25).toInt = (pf77 25).toInt := e105
      have e106 : (pf92 26).toInt = (pf77 26).toInt := e106
      have e107 : FrB (pf77 13).toInt na55 ma56 na93 ma94 := e107
      have ht_v10 := ht_v10.kp (FrB.le e107 (by first | with_reducible rfl | with_reducible assumption | omega)) (by first | with_reducible rfl | with_reducible assumption | omega)
      have hn_ht_v10 := ht_v10.num
      have hdq_v10 := dp_fb (x := v10) e107 (by first | with_reducible rfl | with_reducible assumption | omega) (by first | with_reducible rfl | with_reducible assumption | omega)
      have ht_v59 := ht_v59.kp (FrB.le e107 (by first | with_reducible rfl | with_reducible assumption | omega)) (by first | with_reducible rfl | with_reducible assumption | omega)
      have hn_ht_v59 := ht_v59.num
      have hdq_v59 := dp_fb (x := v59) e107 (by first | with_reducible rfl | with_reducible assumption | omega) (by first | with_reducible rfl | with_reducible assumption | omega)
      have hxd_v10 := hxd_v10.kp (FrB.le e107 (by first | with_reducible rfl | with_reducible assumption | omega)) (by first | with_reducible rfl | with_reducible assumption | omega)
      have hfb := hfb.tr e107 (by first | with_reducible rfl | with_reducible assumption | omega)
      have e108 : FrW (pf77 26).toInt wa57 wa95 := e108
      have hfw := hfw.tr e108 (by first | with_reducible rfl | with_reducible assumption | omega)
      have e109 : ExD ta (tf 6).toInt na93 ma94 v97 (pf77 13).toInt (pf92 13).toInt (3 * (bp ta (pf92 11) - bp ta (pf77 11))) (pf77 12).toInt := e109
      have hxd_v97 := e109
      have hnx_v97 := hxd_v97.num
      have e110 : FsI (tf 6).toInt (pf92 13).toInt na93 := e110
      have hfs := e110
      have hw : pw D A s.heap H locs [wdP cs h r g tf ta pf92 na93 ma94 wa95 cf ca ef ea xf xa] := hw
      have lv97 := Int32.le_toInt v97
      have uv97 := Int32.toInt_lt v97
      refine lv_istore (lv' := [(5, .int v97), (4, .int v59), (3, .int (pf5 11)), (2, .int v10), (1, .int (pf 11)), (0, .ref h)]) S.x S.b d_Mpg_conditional_61 hl (by decide) rfl (fun ls hl => ?_)
      refine lv_aload_n S.x S.b d_Mpg_conditional_63 rfl (lv_at hl 5 rfl) ?_
      refine lv_dup S.x S.b d_Mpg_conditional_64 rfl ?_
      refine px_get S k_Mpg hT hw 0 0 12 (v := .int (pf92 12)) rfl rfl rfl (by decide) m9_236 d_Mpg_conditional_65 ?_
      refine lv_iconst (v := 1) S.x S.b d_Mpg_conditional_68 (by decide) ?_
      refine lv_isub S.x S.b d_Mpg_conditional_69 ?_
      have lr111 := Int32.le_toInt (pf92 12)
      have ur111 := Int32.toInt_lt (pf92 12)
      refine lv_topi (fun z112 ez112 => ?_)
      have tz112 : z112.toInt = ((pf92 12).toInt - (1 : Int) + 2147483648) % 4294967296 - 2147483648 := by rw [ez112]; exact i_sub (pf92 12) 1
      have lz112 := Int32.le_toInt z112
      have uz112 := Int32.toInt_lt z112
      try replace tz112 : z112.toInt = (pf92 12).toInt - (1 : Int) := by omega
      refine px_put S k_Mpg hT hw 0 0 12 rfl rfl (by decide) m9_236 rfl rfl rfl (Nat.le_of_ble_eq_true rfl) d_Mpg_conditional_70 (w' := wdP cs h r g tf ta (upd pf92 12 z112) na93 ma94 wa95 cf ca ef ea xf xa) (ps' := [wdP cs h r g tf ta (upd pf92 12 z112) na93 ma94 wa95 cf ca ef ea xf xa]) rfl rfl (fun H locs hw => ?_)
      refine lv_aload_n S.x S.b d_Mpg_conditional_73 rfl (lv_at hl 5 rfl) ?_
      refine lv_bipush (v := 8) S.x S.b d_Mpg_conditional_74 (by decide) ?_
      refine lv_iload_n S.x S.b d_Mpg_conditional_76 rfl (lv_at hl 2 rfl) ?_
      refine px_calli (pr := []) (px_runV (As := [.int 8, .int (pf5 11)]) (rest := []) S (c_mp_make l D cs h r g tf ta wa95 cf ca ef ea xf xa (upd pf92 12 z112) na93 ma94 8 (pf5 11)  (show 0 ≤ (pf92 13).toInt from by first | exact oz_54eba00cf9 hnx_v97.1 hnx_v97.2 | omega) (show (pf92 13).toInt < 2100 from by first | exact oz_4f78757f1c e101 e80 e84 e99 g2 e63 g6 e14 e40 e46 | omega) _) hT (pr := []) (pcs := [wdP cs h r g tf ta (upd pf92 12 z112) na93 ma94 wa95 cf ca ef ea xf xa]) hw px_X.tt (px_recv hT hw 0 0 rfl rfl rfl) m11_209 m11_206 m11_208 ms_8_12 m1_21 q_Mpg_make ⟨show 0 + 1 ≤ (8 * lv + 19) from by first | with_reducible rfl | with_reducible assumption | omega, show 8 + (3 + 11) + 0 ≤ (220 * lv + 690) from by first | with_reducible rfl | with_reducible assumption | omega⟩ hl.1 rfl (Nat.le_of_ble_eq_true rfl) d_Mpg_conditional_77 ⟨Nat.le_of_ble_eq_true rfl, Nat.le_of_ble_eq_true rfl⟩) hw hA (fun v120 p119 H locs hp119 hw => ?_)
      obtain ⟨pf116, na117, ma118, rfl, e121, e122, e123, e124, e125, e126, e127, e128⟩ := hp119
      have e121 : v120.toInt = (pf92 13).toInt := e121
      have e122 : (pf116 13).toInt = (pf92 13).toInt + 1 := e122
      have e123 : (pf116 11).toInt = (pf92 11).toInt := e123
      have e124 : (pf116 12).toInt = z112.toInt := e124
      have e125 : (pf116 24).toInt = (pf92 24).toInt := e125
      have e126 : (pf116 25).toInt = (pf92 25).toInt := e126
      have e127 : (pf116 26).toInt = (pf92 26).toInt := e127
      have e128 : MkN na93 ma94 na117 ma118 v120 (8 : Int32) (pf5 11) := e128
      obtain ⟨qb1291, qb1292, qb1293, qb1294⟩ := tk_eq (ta := ta) (x := (pf116 11)) (y := (pf92 11)) (by first | with_reducible rfl | with_reducible assumption | omega)
      have hmk_v120 := e128
      have hfm_v120 := MkN.frb (b := v120.toInt) hmk_v120 (by first | with_reducible rfl | with_reducible assumption | omega) (by first | with_reducible rfl | with_reducible assumption | omega)
      have ht_v10 := ht_v10.kp (FrB.le hfm_v120 (by first | with_reducible rfl | with_reducible assumption | omega)) (by first | with_reducible rfl | with_reducible assumption | omega)
      have hn_ht_v10 := ht_v10.num
      have hdq_v10 := dp_fb (x := v10) hfm_v120 (by first | with_reducible rfl | with_reducible assumption | omega) (by first | with_reducible rfl | with_reducible assumption | omega)
      have ht_v59 := ht_v59.kp (FrB.le hfm_v120 (by first | with_reducible rfl | with_reducible assumption | omega)) (by first | with_reducible rfl | with_reducible assumption | omega)
      have hn_ht_v59 := ht_v59.num
      have hdq_v59 := dp_fb (x := v59) hfm_v120 (by first | with_reducible rfl | with_reducible assumption | omega) (by first | with_reducible rfl | with_reducible assumption | omega)
      have hxd_v10 := hxd_v10.kp (FrB.le hfm_v120 (by first | with_reducible rfl | with_reducible assumption | omega)) (by first | with_reducible rfl | with_reducible assumption | omega)
      have hxd_v97 := hxd_v97.kp (FrB.le hfm_v120 (by first | with_reducible rfl | with_reducible assumption | omega)) (by first | with_reducible rfl | with_reducible assumption | omega)
      have hfs := FsI.mk hfs hmk_v120 (by first | with_reducible rfl | with_reducible assumption | omega) (by first | with_reducible rfl | with_reducible assumption | omega) (by first | with_reducible rfl | with_reducible assumption | omega) (by first | with_reducible rfl | with_reducible assumption | omega)
      have hfb := hfb.tr hfm_v120 (by first | with_reducible rfl | with_reducible assumption | omega)
      have hnk_v120 := hmk_v120.nk (by decide) (by decide) (by first | with_reducible rfl | with_reducible assumption | omega)
      have hdn_v120 := dp_nk hmk_v120
      have hw : pw D A s.heap H locs [wdP cs h r g tf ta pf116 na117 ma118 wa95 cf ca ef ea xf xa] := hw
      have lv120 := Int32.le_toInt v120
      have uv120 := Int32.toInt_lt v120
      refine lv_istore (lv' := [(6, .int v120), (5, .int v97), (4, .int v59), (3, .int (pf5 11)), (2, .int v10), (1, .int (pf 11)), (0, .ref h)]) S.x S.b d_Mpg_conditional_80 hl (by decide) rfl (fun ls hl => ?_)
      refine lv_aload_n S.x S.b d_Mpg_conditional_82 rfl (lv_at hl 6 rfl) ?_
      refine px_get S k_Mpg hT hw 0 0 23 (v := .ref (r 23)) rfl rfl rfl (by decide) m10_11 d_Mpg_conditional_83 ?_
      refine lv_iload S.x S.b d_Mpg_conditional_86 (lv_at hl 0 rfl) ?_
      refine lv_iconst (v := 1) S.x S.b d_Mpg_conditional_88 (by decide) ?_
      refine lv_aload_n S.x S.b d_Mpg_conditional_89 rfl (lv_at hl 6 rfl) ?_
      refine px_get S k_Mpg hT hw 0 0 23 (v := .ref (r 23)) rfl rfl rfl (by decide) m10_11 d_Mpg_conditional_90 ?_
      refine lv_iload_n S.x S.b d_Mpg_conditional_93 rfl (lv_at hl 4 rfl) ?_
      refine lv_if_ge (tgt := 103) S.x S.b d_Mpg_conditional_94 (by decide) (fun c130 => ?_) (fun c130 => ?_)
      · have nc130 : (0 : Int) ≤ v10.toInt := (i_le (x := 0) (y := v10)).mp c130
        refine lv_iload_n S.x S.b d_Mpg_conditional_103 rfl (lv_at hl 4 rfl) ?_
        refine px_iald S hT hw 0 19 (n := 2100) (f := (na117 23)) rfl gp_23 (x := v10) (vp_in_iff.mpr (by first | exact oz_0c88cfaf88 nc32 hnx_v10.1 e14 g6 e40 g2 e60 e80 e81 | (constructor <;> omega))) d_Mpg_conditional_104 ?_
        refine lv_topi (fun z131 ez131 => ?_)
        have lz131 := Int32.le_toInt z131
        have uz131 := Int32.toInt_lt z131
        have rz131 : z131.toInt = dp na117 v10 := by rw [ez131]; rfl
        refine lv_aload_n S.x S.b d_Mpg_conditional_105 rfl (lv_at hl 6 rfl) ?_
        refine px_get S k_Mpg hT hw 0 0 23 (v := .ref (r 23)) rfl rfl rfl (by decide) m10_11 d_Mpg_conditional_106 ?_
        refine lv_iload S.x S.b d_Mpg_conditional_109 (lv_at hl 2 rfl) ?_
        refine px_iald S hT hw 0 19 (n := 2100) (f := (na117 23)) rfl gp_23 (x := v59) (vp_in_iff.mpr (by constructor <;> omega)) d_Mpg_conditional_111 ?_
        refine lv_topi (fun z132 ez132 => ?_)
        have lz132 := Int32.le_toInt z132
        have uz132 := Int32.toInt_lt z132
        have rz132 : z132.toInt = dp na117 v59 := by rw [ez132]; rfl
        refine lv_aload_n S.x S.b d_Mpg_conditional_112 rfl (lv_at hl 6 rfl) ?_
        refine px_get S k_Mpg hT hw 0 0 23 (v := .ref (r 23)) rfl rfl rfl (by decide) m10_11 d_Mpg_conditional_113 ?_
        refine lv_iload S.x S.b d_Mpg_conditional_116 (lv_at hl 1 rfl) ?_
        refine lv_if_ge (tgt := 128) S.x S.b d_Mpg_conditional_118 (by decide) (fun c133 => ?_) (fun c133 => ?_)
        · have nc133 : (0 : Int) ≤ v97.toInt := (i_le (x := 0) (y := v97)).mp c133
          refine lv_iload S.x S.b d_Mpg_conditional_128 (lv_at hl 1 rfl) ?_
          have ht_v97 := hxd_v97.pos (by first | with_reducible rfl | with_reducible assumption | omega); have hn_ht_v97 := ht_v97.num
          refine px_iald S hT hw 0 19 (n := 2100) (f := (na117 23)) rfl gp_23 (x := v97) (vp_in_iff.mpr (by first | exact oz_5801cd9f67 nc133 hnx_v97.1 e101 e80 e84 e99 g2 e63 g6 e14 e40 e46 | (constructor <;> omega))) d_Mpg_conditional_130 ?_
          refine lv_topi (fun z134 ez134 => ?_)
          have lz134 := Int32.le_toInt z134
          have uz134 := Int32.toInt_lt z134
          have rz134 : z134.toInt = dp na117 v97 := by rw [ez134]; rfl
          refine px_calli (pr := [wdP cs h r g tf ta pf116 na117 ma118 wa95 cf ca ef ea xf xa]) (px_runS (As := [.int z132, .int z134]) (rest := [.int z131, .int 1, .int v120, .ref (r 23)]) S (c_mp_deeper l D cs  z132 z134   _) hT (pr := [wdP cs h r g tf ta pf116 na117 ma118 wa95 cf ca ef ea xf xa]) (pcs := []) hw px_X.tt m12_49 m12_47 m12_48 m1_21 q_Mpg_deeper ⟨show 0 + 1 ≤ (8 * lv + 19) from by first | with_reducible rfl | with_reducible assumption | omega, show 8 + (2 + 11) + 0 ≤ (220 * lv + 690) from by first | with_reducible rfl | with_reducible assumption | omega⟩ hl.1 rfl (Nat.le_of_ble_eq_true rfl) d_Mpg_conditional_131 ⟨Nat.le_of_ble_eq_true rfl, Nat.le_of_ble_eq_true rfl⟩) hw hA (fun v136 p135 H locs hp135 hw => ?_)
          obtain ⟨rfl, e137, e138, e139⟩ := hp135
          have e137 : z132.toInt ≤ v136.toInt := e137
          have e138 : z134.toInt ≤ v136.toInt := e138
          have e139 : v136.toInt = z132.toInt ∨ v136.toInt = z134.toInt := e139
          have hw : pw D A s.heap H locs [wdP cs h r g tf ta pf116 na117 ma118 wa95 cf ca ef ea xf xa] := hw
          have lv136 := Int32.le_toInt v136
          have uv136 := Int32.toInt_lt v136
          refine px_calli (pr := [wdP cs h r g tf ta pf116 na117 ma118 wa95 cf ca ef ea xf xa]) (px_runS (As := [.int z131, .int v136]) (rest := [.int 1, .int v120, .ref (r 23)]) S (c_mp_deeper l D cs  z131 v136   _) hT (pr := [wdP cs h r g tf ta pf116 na117 ma118 wa95 cf ca ef ea xf xa]) (pcs := []) hw px_X.tt m12_49 m12_47 m12_48 m1_21 q_Mpg_deeper ⟨show 0 + 1 ≤ (8 * lv + 19) from by first | with_reducible rfl | with_reducible assumption | omega, show 8 + (2 + 11) + 0 ≤ (220 * lv + 690) from by first | with_reducible rfl | with_reducible assumption | omega⟩ hl.1 rfl (Nat.le_of_ble_eq_true rfl) d_Mpg_conditional_134 ⟨Nat.le_of_ble_eq_true rfl, Nat.le_of_ble_eq_true rfl⟩) hw hA (fun v141 p140 H locs hp140 hw => ?_)
          obtain ⟨rfl, e142, e143, e144⟩ := hp140
          have e142 : z131.toInt ≤ v141.toInt := e142
          have e143 : v136.toInt ≤ v141.toInt := e143
          have e144 : v141.toInt = z131.toInt ∨ v141.toInt = v136.toInt := e144
          have hw : pw D A s.heap H locs [wdP cs h r g tf ta pf116 na117 ma118 wa95 cf ca ef ea xf xa] := hw
          have lv141 := Int32.le_toInt v141
          have uv141 := Int32.toInt_lt v141
          refine lv_iadd S.x S.b d_Mpg_conditional_137 ?_
          refine lv_topi (fun z145 ez145 => ?_)
          have tz145 : z145.toInt = ((1 : Int) + v141.toInt + 2147483648) % 4294967296 - 2147483648 := by rw [ez145]; exact i_add 1 v141
          have lz145 := Int32.le_toInt z145
          have uz145 := Int32.toInt_lt z145
          try replace tz145 : z145.toInt = (1 : Int) + v141.toInt := by omega
          refine px_iast S hT hw 0 19 (n := 2100) (f := (na117 23)) (x := v120) (y := z145) rfl gp_23 (vp_in_iff.mpr (by constructor <;> omega)) d_Mpg_conditional_138 (w' := wdP cs h r g tf ta pf116 (va_up na117 23 (upd (na117 23) v120.toNatClampNeg z145)) ma118 wa95 cf ca ef ea xf xa) (ps' := [wdP cs h r g tf ta pf116 (va_up na117 23 (upd (na117 23) v120.toNatClampNeg z145)) ma118 wa95 cf ca ef ea xf xa]) sp_23 rfl (fun H locs hw => ?_)
          refine lv_aload_n S.x S.b d_Mpg_conditional_139 rfl (lv_at hl 6 rfl) ?_
          refine px_get S k_Mpg hT hw 0 0 16 (v := .ref (r 16)) rfl rfl rfl (by decide) m10_0 d_Mpg_conditional_140 ?_
          refine lv_iload S.x S.b d_Mpg_conditional_143 (lv_at hl 0 rfl) ?_
          refine lv_iload_n S.x S.b d_Mpg_conditional_145 rfl (lv_at hl 5 rfl) ?_
          refine px_iast S hT hw 0 12 (n := 2100) (f := ((va_up na117 23 (upd (na117 23) v120.toNatClampNeg z145)) 16)) (x := v120) (y := (pf 11)) rfl gp_16 (vp_in_iff.mpr (by constructor <;> omega)) d_Mpg_conditional_146 (w' := wdP cs h r g tf ta pf116 (va_up (va_up na117 23 (upd (na117 23) v120.toNatClampNeg z145)) 16 (upd ((va_up na117 23 (upd (na117 23) v120.toNatClampNeg z145)) 16) v120.toNatClampNeg (pf 11))) ma118 wa95 cf ca ef ea xf xa) (ps' := [wdP cs h r g tf ta pf116 (va_up (va_up na117 23 (upd (na117 23) v120.toNatClampNeg z145)) 16 (upd ((va_up na117 23 (upd (na117 23) v120.toNatClampNeg z145)) 16) v120.toNatClampNeg (pf 11))) ma118 wa95 cf ca ef ea xf xa]) sp_16 rfl (fun H locs hw => ?_)
          refine lv_aload_n S.x S.b d_Mpg_conditional_147 rfl (lv_at hl 6 rfl) ?_
          refine px_get S k_Mpg hT hw 0 0 17 (v := .ref (r 17)) rfl rfl rfl (by decide) m10_1 d_Mpg_conditional_148 ?_
          refine lv_iload S.x S.b d_Mpg_conditional_151 (lv_at hl 0 rfl) ?_
          refine lv_iload_n S.x S.b d_Mpg_conditional_153 rfl (lv_at hl 4 rfl) ?_
          refine lv_if_ge (tgt := 163) S.x S.b d_Mpg_conditional_154 (by decide) (fun c146 => ?_) (fun c146 => ?_)
          · have nc146 : (0 : Int) ≤ v10.toInt := (i_le (x := 0) (y := v10)).mp c146
            refine lv_iload_n S.x S.b d_Mpg_conditional_163 rfl (lv_at hl 4 rfl) ?_
            refine px_iast S hT hw 0 13 (n := 2100) (f := ((va_up (va_up na117 23 (upd (na117 23) v120.toNatClampNeg z145)) 16 (upd ((va_up na117 23 (upd (na117 23) v120.toNatClampNeg z145)) 16) v120.toNatClampNeg (pf 11))) 17)) (x := v120) (y := v10) rfl gp_17 (vp_in_iff.mpr (by constructor <;> omega)) d_Mpg_conditional_164 (w' := wdP cs h r g tf ta pf116 (va_up (va_up (va_up na117 23 (upd (na117 23) v120.toNatClampNeg z145)) 16 (upd ((va_up na117 23 (upd (na117 23) v120.toNatClampNeg z145)) 16) v120.toNatClampNeg (pf 11))) 17 (upd ((va_up (va_up na117 23 (upd (na117 23) v120.toNatClampNeg z145)) 16 (upd ((va_up na117 23 (upd (na117 23) v120.toNatClampNeg z145)) 16) v120.toNatClampNeg (pf 11))) 17) v120.toNatClampNeg v10)) ma118 wa95 cf ca ef ea xf xa) (ps' := [wdP cs h r g tf ta pf116 (va_up (va_up (va_up na117 23 (upd (na117 23) v120.toNatClampNeg z145)) 16 (upd ((va_up na117 23 (upd (na117 23) v120.toNatClampNeg z145)) 16) v120.toNatClampNeg (pf 11))) 17 (upd ((va_up (va_up na117 23 (upd (na117 23) v120.toNatClampNeg z145)) 16 (upd ((va_up na117 23 (upd (na117 23) v120.toNatClampNeg z145)) 16) v120.toNatClampNeg (pf 11))) 17) v120.toNatClampNeg v10)) ma118 wa95 cf ca ef ea xf xa]) sp_17 rfl (fun H locs hw => ?_)
            refine lv_aload_n S.x S.b d_Mpg_conditional_165 rfl (lv_at hl 6 rfl) ?_
            refine px_get S k_Mpg hT hw 0 0 18 (v := .ref (r 18)) rfl rfl rfl (by decide) m10_3 d_Mpg_conditional_166 ?_
            refine lv_iload S.x S.b d_Mpg_conditional_169 (lv_at hl 0 rfl) ?_
            refine lv_iload S.x S.b d_Mpg_conditional_171 (lv_at hl 2 rfl) ?_
            refine px_iast S hT hw 0 14 (n := 2100) (f := (ma118 18)) (x := v120) (y := v59) rfl gp_18 (vp_in_iff.mpr (by constructor <;> omega)) d_Mpg_conditional_173 (w' := wdP cs h r g tf ta pf116 (va_up (va_up (va_up na117 23 (upd (na117 23) v120.toNatClampNeg z145)) 16 (upd ((va_up na117 23 (upd (na117 23) v120.toNatClampNeg z145)) 16) v120.toNatClampNeg (pf 11))) 17 (upd ((va_up (va_up na117 23 (upd (na117 23) v120.toNatClampNeg z145)) 16 (upd ((va_up na117 23 (upd (na117 23) v120.toNatClampNeg z145)) 16) v120.toNatClampNeg (pf 11))) 17) v120.toNatClampNeg v10)) (va_up ma118 18 (upd (ma118 18) v120.toNatClampNeg v59)) wa95 cf ca ef ea xf xa) (ps' := [wdP cs h r g tf ta pf116 (va_up (va_up (va_up na117 23 (upd (na117 23) v120.toNatClampNeg z145)) 16 (upd ((va_up na117 23 (upd (na117 23) v120.toNatClampNeg z145)) 16) v120.toNatClampNeg (pf 11))) 17 (upd ((va_up (va_up na117 23 (upd (na117 23) v120.toNatClampNeg z145)) 16 (upd ((va_up na117 23 (upd (na117 23) v120.toNatClampNeg z145)) 16) v120.toNatClampNeg (pf 11))) 17) v120.toNatClampNeg v10)) (va_up ma118 18 (upd (ma118 18) v120.toNatClampNeg v59)) wa95 cf ca ef ea xf xa]) sp_18 rfl (fun H locs hw => ?_)
            refine lv_aload_n S.x S.b d_Mpg_conditional_174 rfl (lv_at hl 6 rfl) ?_
            refine px_get S k_Mpg hT hw 0 0 19 (v := .ref (r 19)) rfl rfl rfl (by decide) m10_5 d_Mpg_conditional_175 ?_
            refine lv_iload S.x S.b d_Mpg_conditional_178 (lv_at hl 0 rfl) ?_
            refine lv_iload S.x S.b d_Mpg_conditional_180 (lv_at hl 1 rfl) ?_
            refine lv_if_ge (tgt := 192) S.x S.b d_Mpg_conditional_182 (by decide) (fun c147 => ?_) (fun c147 => ?_)
            · have nc147 : (0 : Int) ≤ v97.toInt := (i_le (x := 0) (y := v97)).mp c147
              refine lv_iload S.x S.b d_Mpg_conditional_192 (lv_at hl 1 rfl) ?_
              refine px_iast S hT hw 0 15 (n := 2100) (f := ((va_up ma118 18 (upd (ma118 18) v120.toNatClampNeg v59)) 19)) (x := v120) (y := v97) rfl gp_19 (vp_in_iff.mpr (by constructor <;> omega)) d_Mpg_conditional_194 (w' := wdP cs h r g tf ta pf116 (va_up (va_up (va_up na117 23 (upd (na117 23) v120.toNatClampNeg z145)) 16 (upd ((va_up na117 23 (upd (na117 23) v120.toNatClampNeg z145)) 16) v120.toNatClampNeg (pf 11))) 17 (upd ((va_up (va_up na117 23 (upd (na117 23) v120.toNatClampNeg z145)) 16 (upd ((va_up na117 23 (upd (na117 23) v120.toNatClampNeg z145)) 16) v120.toNatClampNeg (pf 11))) 17) v120.toNatClampNeg v10)) (va_up (va_up ma118 18 (upd (ma118 18) v120.toNatClampNeg v59)) 19 (upd ((va_up ma118 18 (upd (ma118 18) v120.toNatClampNeg v59)) 19) v120.toNatClampNeg v97)) wa95 cf ca ef ea xf xa) (ps' := [wdP cs h r g tf ta pf116 (va_up (va_up (va_up na117 23 (upd (na117 23) v120.toNatClampNeg z145)) 16 (upd ((va_up na117 23 (upd (na117 23) v120.toNatClampNeg z145)) 16) v120.toNatClampNeg (pf 11))) 17 (upd ((va_up (va_up na117 23 (upd (na117 23) v120.toNatClampNeg z145)) 16 (upd ((va_up na117 23 (upd (na117 23) v120.toNatClampNeg z145)) 16) v120.toNatClampNeg (pf 11))) 17) v120.toNatClampNeg v10)) (va_up (va_up ma118 18 (upd (ma118 18) v120.toNatClampNeg v59)) 19 (upd ((va_up ma118 18 (upd (ma118 18) v120.toNatClampNeg v59)) 19) v120.toNatClampNeg v97)) wa95 cf ca ef ea xf xa]) sp_19 rfl (fun H locs hw => ?_)
              refine lv_iload S.x S.b d_Mpg_conditional_195 (lv_at hl 0 rfl) ?_
              exact th_iret (v := v120) S hr rfl hlk hAe hw (⟨pf116, (va_up (va_up (va_up na117 23 (upd (na117 23) v120.toNatClampNeg z145)) 16 (upd ((va_up na117 23 (upd (na117 23) v120.toNatClampNeg z145)) 16) v120.toNatClampNeg (pf 11))) 17 (upd ((va_up (va_up na117 23 (upd (na117 23) v120.toNatClampNeg z145)) 16 (upd ((va_up na117 23 (upd (na117 23) v120.toNatClampNeg z145)) 16) v120.toNatClampNeg (pf 11))) 17) v120.toNatClampNeg v10)), (va_up (va_up ma118 18 (upd (ma118 18) v120.toNatClampNeg v59)) 19 (upd ((va_up ma118 18 (upd (ma118 18) v120.toNatClampNeg v59)) 19) v120.toNatClampNeg v97)), wa95, rfl, (show (pf 11).toInt + 1 ≤ (pf116 11).toInt from by first | exact oz_a94dab7bd6 e11 e123 e40 e98 e60 e80 | omega), (show (pf116 11).toInt < (tf 6).toInt from by first | exact oz_5d2fbac15b e99 e123 | omega), (show (pf 13).toInt + 1 ≤ (pf116 13).toInt from by first | exact oz_51872157b0 e13 e122 e46 e100 e62 e84 | omega), (show (pf116 13).toInt - (pf 13).toInt ≤ (pf116 11).toInt - (pf 11).toInt from by first | exact oz_e4ee09b645 e14 e122 e123 e40 e46 e101 e63 e80 e84 | omega), (show bp ta (pf 11) + 1 ≤ bp ta (pf116 11) from by first | exact oz_5a9929be88 e15 qb1291 e42 e102 e43 e64 e82 | omega), (show (pf116 12).toInt = (pf 12).toInt from by first | exact oz_9e0ebf2891 e16 e124 e44 tz112 e65 e103 e83 | omega), (show (pf116 24).toInt = (pf 24).toInt from by first | exact oz_a783471c71 e17 e125 e47 e104 e66 e85 | omega), (show (pf116 25).toInt = (pf 25).toInt from by first | exact oz_a783471c71 e18 e126 e48 e105 e67 e86 | omega), (show (pf116 26).toInt = (pf 26).toInt from by first | exact oz_a783471c71 e19 e127 e49 e106 e68 e87 | omega), (show FrB (pf 13).toInt na ma (va_up (va_up (va_up na117 23 (upd (na117 23) v120.toNatClampNeg z145)) 16 (upd ((va_up na117 23 (upd (na117 23) v120.toNatClampNeg z145)) 16) v120.toNatClampNeg (pf 11))) 17 (upd ((va_up (va_up na117 23 (upd (na117 23) v120.toNatClampNeg z145)) 16 (upd ((va_up na117 23 (upd (na117 23) v120.toNatClampNeg z145)) 16) v120.toNatClampNeg (pf 11))) 17) v120.toNatClampNeg v10)) (va_up (va_up ma118 18 (upd (ma118 18) v120.toNatClampNeg v59)) 19 (upd ((va_up ma118 18 (upd (ma118 18) v120.toNatClampNeg v59)) 19) v120.toNatClampNeg v97)) from (FrB.um (FrB.um (FrB.un (FrB.un (FrB.un hfb (by first | with_reducible rfl | with_reducible assumption | omega) (by first | with_reducible rfl | with_reducible assumption | omega)) (by first | with_reducible rfl | with_reducible assumption | omega) (by first | with_reducible rfl | with_reducible assumption | omega)) (by first | with_reducible rfl | with_reducible assumption | omega) (by first | with_reducible rfl | with_reducible assumption | omega)) (by first | with_reducible rfl | with_reducible assumption | omega) (by first | with_reducible rfl | with_reducible assumption | omega)) (by first | with_reducible rfl | with_reducible assumption | omega) (by first | with_reducible rfl | with_reducible assumption | omega))), (show FrW (pf 26).toInt wa wa95 from hfw), (show ExD ta (tf 6).toInt (va_up (va_up (va_up na117 23 (upd (na117 23) v120.toNatClampNeg z145)) 16 (upd ((va_up na117 23 (upd (na117 23) v120.toNatClampNeg z145)) 16) v120.toNatClampNeg (pf 11))) 17 (upd ((va_up (va_up na117 23 (upd (na117 23) v120.toNatClampNeg z145)) 16 (upd ((va_up na117 23 (upd (na117 23) v120.toNatClampNeg z145)) 16) v120.toNatClampNeg (pf 11))) 17) v120.toNatClampNeg v10)) (va_up (va_up ma118 18 (upd (ma118 18) v120.toNatClampNeg v59)) 19 (upd ((va_up ma118 18 (upd (ma118 18) v120.toNatClampNeg v59)) 19) v120.toNatClampNeg v97)) v120 (pf 13).toInt (pf116 13).toInt (3 * (bp ta (pf116 11) - bp ta (pf 11))) (pf 12).toInt from (exd_of (ExR.le (exr_cond (ExR.le ht_v10 (Int.le_refl _) (by first | with_reducible rfl | with_reducible assumption | omega) (Int.le_refl _) (Int.le_refl _)) (ExR.le ht_v59 (Int.le_refl _) (by first | with_reducible rfl | with_reducible assumption | omega) (Int.le_refl _) (by first | with_reducible rfl | with_reducible assumption | omega)) ht_v97 (by first | with_reducible rfl | with_reducible assumption | omega) (by first | with_reducible rfl | with_reducible assumption | omega) (fun x hx => ⟨fun j => by rw [up_far hx, up_far hx, up_far hx], fun j => by rw [up_far hx, up_far hx]⟩) (by rw [va_up_n (by decide), va_up_n (by decide), va_up_n (by decide), hnk_v120.1]; rfl) (ndt_of (by rw [va_up_n (by decide), va_up_n (by decide), va_up_n (by decide), hnk_v120.2.1]) (by first | with_reducible rfl | with_reducible assumption | omega) (by first | with_reducible rfl | with_reducible assumption | omega) (by first | with_reducible rfl | with_reducible assumption | omega)) (by rw [va_up_s, pk_us]) (by rw [va_up_n (by decide), va_up_s, pk_us]) (by rw [va_up_s, pk_us]) (by rw [dp_un (by decide), dp_un (by decide), dp_us]; refine ⟨?_, ?_, ?_⟩ <;> omega) (by rw [dp_un (by decide), dp_un (by decide), dp_us]; omega) ⟨(by rw [va_up_n (by decide), va_up_n (by decide), va_up_n (by decide), hnk_v120.2.2.1]; decide), (by rw [va_up_n (by decide), va_up_n (by decide), hnk_v120.2.2.2.2]; decide)⟩ (by first | with_reducible rfl | with_reducible assumption | omega)) (by first | with_reducible rfl | with_reducible assumption | omega) (by first | with_reducible rfl | with_reducible assumption | omega) (by first | with_reducible rfl | with_reducible assumption | omega) (Int.le_refl _)) (by first | with_reducible rfl | with_reducible assumption | omega))), (show FsI (tf 6).toInt (pf116 13).toInt (va_up (va_up (va_up na117 23 (upd (na117 23) v120.toNatClampNeg z145)) 16 (upd ((va_up na117 23 (upd (na117 23) v120.toNatClampNeg z145)) 16) v120.toNatClampNeg (pf 11))) 17 (upd ((va_up (va_up na117 23 (upd (na117 23) v120.toNatClampNeg z145)) 16 (upd ((va_up na117 23 (upd (na117 23) v120.toNatClampNeg z145)) 16) v120.toNatClampNeg (pf 11))) 17) v120.toNatClampNeg v10)) from (FsI.le (FsI.un (FsI.us (FsI.un hfs (by decide)) (by first | with_reducible rfl | with_reducible assumption | omega) (by first | with_reducible rfl | with_reducible assumption | omega)) (by decide)) (by first | with_reducible rfl | with_reducible assumption | omega)))⟩) d_Mpg_conditional_197
            · have nc147 : ¬ (0 : Int) ≤ v97.toInt := mt (i_le (x := 0) (y := v97)).mpr c147
              exfalso
              omega
          · have nc146 : ¬ (0 : Int) ≤ v10.toInt := mt (i_le (x := 0) (y := v10)).mpr c146
            exfalso
            omega
        · have nc133 : ¬ (0 : Int) ≤ v97.toInt := mt (i_le (x := 0) (y := v97)).mpr c133
          refine lv_iconst (v := (-1)) S.x S.b d_Mpg_conditional_121 (by decide) ?_
          refine lv_iload S.x S.b d_Mpg_conditional_122 (lv_at hl 1 rfl) ?_
          refine lv_isub S.x S.b d_Mpg_conditional_124 ?_
          refine lv_topi (fun z148 ez148 => ?_)
          have tz148 : z148.toInt = ((-1 : Int) - v97.toInt + 2147483648) % 4294967296 - 2147483648 := by rw [ez148]; exact i_sub (-1) v97
          have lz148 := Int32.le_toInt z148
          have uz148 := Int32.toInt_lt z148
          try replace tz148 : z148.toInt = (-1 : Int) - v97.toInt := by omega
          have ht_z148 := hxd_v97.neg (z := z148) (by first | with_reducible rfl | with_reducible assumption | omega) (by first | with_reducible rfl | with_reducible assumption | omega); have hn_ht_z148 := ht_z148.num
          refine lv_goto (tgt := 130) S.x S.b d_Mpg_conditional_125 (by decide) ?_
          refine px_iald S hT hw 0 19 (n := 2100) (f := (na117 23)) rfl gp_23 (x := z148) (vp_in_iff.mpr (by first | exact oz_5aca869617 tz148 nc133 hnx_v97.2 e101 e80 e84 e99 g2 e63 g6 e14 e40 e46 | (constructor <;> omega))) d_Mpg_conditional_130 ?_
          refine lv_topi (fun z149 ez149 => ?_)
          have lz149 := Int32.le_toInt z149
          have uz149 := Int32.toInt_lt z149
          have rz149 : z149.toInt = dp na117 z148 := by rw [ez149]; rfl
          refine px_calli (pr := [wdP cs h r g tf ta pf116 na117 ma118 wa95 cf ca ef ea xf xa]) (px_runS (As := [.int z132, .int z149]) (rest := [.int z131, .int 1, .int v120, .ref (r 23)]) S (c_mp_deeper l D cs  z132 z149   _) hT (pr := [wdP cs h r g tf ta pf116 na117 ma118 wa95 cf ca ef ea xf xa]) (pcs := []) hw px_X.tt m12_49 m12_47 m12_48 m1_21 q_Mpg_deeper ⟨show 0 + 1 ≤ (8 * lv + 19) from by first | with_reducible rfl | with_reducible assumption | omega, show 8 + (2 + 11) + 0 ≤ (220 * lv + 690) from by first | with_reducible rfl | with_reducible assumption | omega⟩ hl.1 rfl (Nat.le_of_ble_eq_true rfl) d_Mpg_conditional_131 ⟨Nat.le_of_ble_eq_true rfl, Nat.le_of_ble_eq_true rfl⟩) hw hA (fun v151 p150 H locs hp150 hw => ?_)
          obtain ⟨rfl, e152, e153, e154⟩ := hp150
          have e152 : z132.toInt ≤ v151.toInt := e152
          have e153 : z149.toInt ≤ v151.toInt := e153
          have e154 : v151.toInt = z132.toInt ∨ v151.toInt = z149.toInt := e154
          have hw : pw D A s.heap H locs [wdP cs h r g tf ta pf116 na117 ma118 wa95 cf ca ef ea xf xa] := hw
          have lv151 := Int32.le_toInt v151
          have uv151 := Int32.toInt_lt v151
          refine px_calli (pr := [wdP cs h r g tf ta pf116 na117 ma118 wa95 cf ca ef ea xf xa]) (px_runS (As := [.int z131, .int v151]) (rest := [.int 1, .int v120, .ref (r 23)]) S (c_mp_deeper l D cs  z131 v151   _) hT (pr := [wdP cs h r g tf ta pf116 na117 ma118 wa95 cf ca ef ea xf xa]) (pcs := []) hw px_X.tt m12_49 m12_47 m12_48 m1_21 q_Mpg_deeper ⟨show 0 + 1 ≤ (8 * lv + 19) from by first | with_reducible rfl | with_reducible assumption | omega, show 8 + (2 + 11) + 0 ≤ (220 * lv + 690) from by first | with_reducible rfl | with_reducible assumption | omega⟩ hl.1 rfl (Nat.le_of_ble_eq_true rfl) d_Mpg_conditional_134 ⟨Nat.le_of_ble_eq_true rfl, Nat.le_of_ble_eq_true rfl⟩) hw hA (fun v156 p155 H locs hp155 hw => ?_)
          obtain ⟨rfl, e157, e158, e159⟩ := hp155
          have e157 : z131.toInt ≤ v156.toInt := e157
          have e158 : v151.toInt ≤ v156.toInt := e158
          have e159 : v156.toInt = z131.toInt ∨ v156.toInt = v151.toInt := e159
          have hw : pw D A s.heap H locs [wdP cs h r g tf ta pf116 na117 ma118 wa95 cf ca ef ea xf xa] := hw
          have lv156 := Int32.le_toInt v156
          have uv156 := Int32.toInt_lt v156
          refine lv_iadd S.x S.b d_Mpg_conditional_137 ?_
          refine lv_topi (fun z160 ez160 => ?_)
          have tz160 : z160.toInt = ((1 : Int) + v156.toInt + 2147483648) % 4294967296 - 2147483648 := by rw [ez160]; exact i_add 1 v156
          have lz160 := Int32.le_toInt z160
          have uz160 := Int32.toInt_lt z160
          try replace tz160 : z160.toInt = (1 : Int) + v156.toInt := by omega
          refine px_iast S hT hw 0 19 (n := 2100) (f := (na117 23)) (x := v120) (y := z160) rfl gp_23 (vp_in_iff.mpr (by constructor <;> omega)) d_Mpg_conditional_138 (w' := wdP cs h r g tf ta pf116 (va_up na117 23 (upd (na117 23) v120.toNatClampNeg z160)) ma118 wa95 cf ca ef ea xf xa) (ps' := [wdP cs h r g tf ta pf116 (va_up na117 23 (upd (na117 23) v120.toNatClampNeg z160)) ma118 wa95 cf ca ef ea xf xa]) sp_23 rfl (fun H locs hw => ?_)
          refine lv_aload_n S.x S.b d_Mpg_conditional_139 rfl (lv_at hl 6 rfl) ?_
          refine px_get S k_Mpg hT hw 0 0 16 (v := .ref (r 16)) rfl rfl rfl (by decide) m10_0 d_Mpg_conditional_140 ?_
          refine lv_iload S.x S.b d_Mpg_conditional_143 (lv_at hl 0 rfl) ?_
          refine lv_iload_n S.x S.b d_Mpg_conditional_145 rfl (lv_at hl 5 rfl) ?_
          refine px_iast S hT hw 0 12 (n := 2100) (f := ((va_up na117 23 (upd (na117 23) v120.toNatClampNeg z160)) 16)) (x := v120) (y := (pf 11)) rfl gp_16 (vp_in_iff.mpr (by constructor <;> omega)) d_Mpg_conditional_146 (w' := wdP cs h r g tf ta pf116 (va_up (va_up na117 23 (upd (na117 23) v120.toNatClampNeg z160)) 16 (upd ((va_up na117 23 (upd (na117 23) v120.toNatClampNeg z160)) 16) v120.toNatClampNeg (pf 11))) ma118 wa95 cf ca ef ea xf xa) (ps' := [wdP cs h r g tf ta pf116 (va_up (va_up na117 23 (upd (na117 23) v120.toNatClampNeg z160)) 16 (upd ((va_up na117 23 (upd (na117 23) v120.toNatClampNeg z160)) 16) v120.toNatClampNeg (pf 11))) ma118 wa95 cf ca ef ea xf xa]) sp_16 rfl (fun H locs hw => ?_)
          refine lv_aload_n S.x S.b d_Mpg_conditional_147 rfl (lv_at hl 6 rfl) ?_
          refine px_get S k_Mpg hT hw 0 0 17 (v := .ref (r 17)) rfl rfl rfl (by decide) m10_1 d_Mpg_conditional_148 ?_
          refine lv_iload S.x S.b d_Mpg_conditional_151 (lv_at hl 0 rfl) ?_
          refine lv_iload_n S.x S.b d_Mpg_conditional_153 rfl (lv_at hl 4 rfl) ?_
          refine lv_if_ge (tgt := 163) S.x S.b d_Mpg_conditional_154 (by decide) (fun c161 => ?_) (fun c161 => ?_)
          · have nc161 : (0 : Int) ≤ v10.toInt := (i_le (x := 0) (y := v10)).mp c161
            refine lv_iload_n S.x S.b d_Mpg_conditional_163 rfl (lv_at hl 4 rfl) ?_
            refine px_iast S hT hw 0 13 (n := 2100) (f := ((va_up (va_up na117 23 (upd (na117 23) v120.toNatClampNeg z160)) 16 (upd ((va_up na117 23 (upd (na117 23) v120.toNatClampNeg z160)) 16) v120.toNatClampNeg (pf 11))) 17)) (x := v120) (y := v10) rfl gp_17 (vp_in_iff.mpr (by constructor <;> omega)) d_Mpg_conditional_164 (w' := wdP cs h r g tf ta pf116 (va_up (va_up (va_up na117 23 (upd (na117 23) v120.toNatClampNeg z160)) 16 (upd ((va_up na117 23 (upd (na117 23) v120.toNatClampNeg z160)) 16) v120.toNatClampNeg (pf 11))) 17 (upd ((va_up (va_up na117 23 (upd (na117 23) v120.toNatClampNeg z160)) 16 (upd ((va_up na117 23 (upd (na117 23) v120.toNatClampNeg z160)) 16) v120.toNatClampNeg (pf 11))) 17) v120.toNatClampNeg v10)) ma118 wa95 cf ca ef ea xf xa) (ps' := [wdP cs h r g tf ta pf116 (va_up (va_up (va_up na117 23 (upd (na117 23) v120.toNatClampNeg z160)) 16 (upd ((va_up na117 23 (upd (na117 23) v120.toNatClampNeg z160)) 16) v120.toNatClampNeg (pf 11))) 17 (upd ((va_up (va_up na117 23 (upd (na117 23) v120.toNatClampNeg z160)) 16 (upd ((va_up na117 23 (upd (na117 23) v120.toNatClampNeg z160)) 16) v120.toNatClampNeg (pf 11))) 17) v120.toNatClampNeg v10)) ma118 wa95 cf ca ef ea xf xa]) sp_17 rfl (fun H locs hw => ?_)
            refine lv_aload_n S.x S.b d_Mpg_conditional_165 rfl (lv_at hl 6 rfl) ?_
            refine px_get S k_Mpg hT hw 0 0 18 (v := .ref (r 18)) rfl rfl rfl (by decide) m10_3 d_Mpg_conditional_166 ?_
            refine lv_iload S.x S.b d_Mpg_conditional_169 (lv_at hl 0 rfl) ?_
            refine lv_iload S.x S.b d_Mpg_conditional_171 (lv_at hl 2 rfl) ?_
            refine px_iast S hT hw 0 14 (n := 2100) (f := (ma118 18)) (x := v120) (y := v59) rfl gp_18 (vp_in_iff.mpr (by constructor <;> omega)) d_Mpg_conditional_173 (w' := wdP cs h r g tf ta pf116 (va_up (va_up (va_up na117 23 (upd (na117 23) v120.toNatClampNeg z160)) 16 (upd ((va_up na117 23 (upd (na117 23) v120.toNatClampNeg z160)) 16) v120.toNatClampNeg (pf 11))) 17 (upd ((va_up (va_up na117 23 (upd (na117 23) v120.toNatClampNeg z160)) 16 (upd ((va_up na117 23 (upd (na117 23) v120.toNatClampNeg z160)) 16) v120.toNatClampNeg (pf 11))) 17) v120.toNatClampNeg v10)) (va_up ma118 18 (upd (ma118 18) v120.toNatClampNeg v59)) wa95 cf ca ef ea xf xa) (ps' := [wdP cs h r g tf ta pf116 (va_up (va_up (va_up na117 23 (upd (na117 23) v120.toNatClampNeg z160)) 16 (upd ((va_up na117 23 (upd (na117 23) v120.toNatClampNeg z160)) 16) v120.toNatClampNeg (pf 11))) 17 (upd ((va_up (va_up na117 23 (upd (na117 23) v120.toNatClampNeg z160)) 16 (upd ((va_up na117 23 (upd (na117 23) v120.toNatClampNeg z160)) 16) v120.toNatClampNeg (pf 11))) 17) v120.toNatClampNeg v10)) (va_up ma118 18 (upd (ma118 18) v120.toNatClampNeg v59)) wa95 cf ca ef ea xf xa]) sp_18 rfl (fun H locs hw => ?_)
            refine lv_aload_n S.x S.b d_Mpg_conditional_174 rfl (lv_at hl 6 rfl) ?_
            refine px_get S k_Mpg hT hw 0 0 19 (v := .ref (r 19)) rfl rfl rfl (by decide) m10_5 d_Mpg_conditional_175 ?_
            refine lv_iload S.x S.b d_Mpg_conditional_178 (lv_at hl 0 rfl) ?_
            refine lv_iload S.x S.b d_Mpg_conditional_180 (lv_at hl 1 rfl) ?_
            refine lv_if_ge (tgt := 192) S.x S.b d_Mpg_conditional_182 (by decide) (fun c162 => ?_) (fun c162 => ?_)
            · have nc162 : (0 : Int) ≤ v97.toInt := (i_le (x := 0) (y := v97)).mp c162
              exfalso
              omega
            · have nc162 : ¬ (0 : Int) ≤ v97.toInt := mt (i_le (x := 0) (y := v97)).mpr c162
              refine lv_iconst (v := (-1)) S.x S.b d_Mpg_conditional_185 (by decide) ?_
              refine lv_iload S.x S.b d_Mpg_conditional_186 (lv_at hl 1 rfl) ?_
              refine lv_isub S.x S.b d_Mpg_conditional_188 ?_
              refine lv_topi (fun z163 ez163 => ?_)
              have tz163 : z163.toInt = ((-1 : Int) - v97.toInt + 2147483648) % 4294967296 - 2147483648 := by rw [ez163]; exact i_sub (-1) v97
              have lz163 := Int32.le_toInt z163
              have uz163 := Int32.toInt_lt z163
              try replace tz163 : z163.toInt = (-1 : Int) - v97.toInt := by omega
              have hsz163 : z148 = z163 := i_eq.mpr (by first | with_reducible rfl | with_reducible assumption | omega); subst hsz163
              refine lv_goto (tgt := 194) S.x S.b d_Mpg_conditional_189 (by decide) ?_
              refine px_iast S hT hw 0 15 (n := 2100) (f := ((va_up ma118 18 (upd (ma118 18) v120.toNatClampNeg v59)) 19)) (x := v120) (y := z148) rfl gp_19 (vp_in_iff.mpr (by constructor <;> omega)) d_Mpg_conditional_194 (w' := wdP cs h r g tf ta pf116 (va_up (va_up (va_up na117 23 (upd (na117 23) v120.toNatClampNeg z160)) 16 (upd ((va_up na117 23 (upd (na117 23) v120.toNatClampNeg z160)) 16) v120.toNatClampNeg (pf 11))) 17 (upd ((va_up (va_up na117 23 (upd (na117 23) v120.toNatClampNeg z160)) 16 (upd ((va_up na117 23 (upd (na117 23) v120.toNatClampNeg z160)) 16) v120.toNatClampNeg (pf 11))) 17) v120.toNatClampNeg v10)) (va_up (va_up ma118 18 (upd (ma118 18) v120.toNatClampNeg v59)) 19 (upd ((va_up ma118 18 (upd (ma118 18) v120.toNatClampNeg v59)) 19) v120.toNatClampNeg z148)) wa95 cf ca ef ea xf xa) (ps' := [wdP cs h r g tf ta pf116 (va_up (va_up (va_up na117 23 (upd (na117 23) v120.toNatClampNeg z160)) 16 (upd ((va_up na117 23 (upd (na117 23) v120.toNatClampNeg z160)) 16) v120.toNatClampNeg (pf 11))) 17 (upd ((va_up (va_up na117 23 (upd (na117 23) v120.toNatClampNeg z160)) 16 (upd ((va_up na117 23 (upd (na117 23) v120.toNatClampNeg z160)) 16) v120.toNatClampNeg (pf 11))) 17) v120.toNatClampNeg v10)) (va_up (va_up ma118 18 (upd (ma118 18) v120.toNatClampNeg v59)) 19 (upd ((va_up ma118 18 (upd (ma118 18) v120.toNatClampNeg v59)) 19) v120.toNatClampNeg z148)) wa95 cf ca ef ea xf xa]) sp_19 rfl (fun H locs hw => ?_)
              refine lv_iload S.x S.b d_Mpg_conditional_195 (lv_at hl 0 rfl) ?_
              exact th_iret (v := v120) S hr rfl hlk hAe hw (⟨pf116, (va_up (va_up (va_up na117 23 (upd (na117 23) v120.toNatClampNeg z160)) 16 (upd ((va_up na117 23 (upd (na117 23) v120.toNatClampNeg z160)) 16) v120.toNatClampNeg (pf 11))) 17 (upd ((va_up (va_up na117 23 (upd (na117 23) v120.toNatClampNeg z160)) 16 (upd ((va_up na117 23 (upd (na117 23) v120.toNatClampNeg z160)) 16) v120.toNatClampNeg (pf 11))) 17) v120.toNatClampNeg v10)), (va_up (va_up ma118 18 (upd (ma118 18) v120.toNatClampNeg v59)) 19 (upd ((va_up ma118 18 (upd (ma118 18) v120.toNatClampNeg v59)) 19) v120.toNatClampNeg z148)), wa95, rfl, (show (pf 11).toInt + 1 ≤ (pf116 11).toInt from by first | exact oz_a94dab7bd6 e11 e123 e40 e98 e60 e80 | omega), (show (pf116 11).toInt < (tf 6).toInt from by first | exact oz_5d2fbac15b e99 e123 | omega), (show (pf 13).toInt + 1 ≤ (pf116 13).toInt from by first | exact oz_51872157b0 e13 e122 e46 e100 e62 e84 | omega), (show (pf116 13).toInt - (pf 13).toInt ≤ (pf116 11).toInt - (pf 11).toInt from by first | exact oz_e4ee09b645 e14 e122 e123 e40 e46 e101 e63 e80 e84 | omega), (show bp ta (pf 11) + 1 ≤ bp ta (pf116 11) from by first | exact oz_5a9929be88 e15 qb1291 e42 e102 e43 e64 e82 | omega), (show (pf116 12).toInt = (pf 12).toInt from by first | exact oz_9e0ebf2891 e16 e124 e44 tz112 e65 e103 e83 | omega), (show (pf116 24).toInt = (pf 24).toInt from by first | exact oz_a783471c71 e17 e125 e47 e104 e66 e85 | omega), (show (pf116 25).toInt = (pf 25).toInt from by first | exact oz_a783471c71 e18 e126 e48 e105 e67 e86 | omega), (show (pf116 26).toInt = (pf 26).toInt from by first | exact oz_a783471c71 e19 e127 e49 e106 e68 e87 | omega), (show FrB (pf 13).toInt na ma (va_up (va_up (va_up na117 23 (upd (na117 23) v120.toNatClampNeg z160)) 16 (upd ((va_up na117 23 (upd (na117 23) v120.toNatClampNeg z160)) 16) v120.toNatClampNeg (pf 11))) 17 (upd ((va_up (va_up na117 23 (upd (na117 23) v120.toNatClampNeg z160)) 16 (upd ((va_up na117 23 (upd (na117 23) v120.toNatClampNeg z160)) 16) v120.toNatClampNeg (pf 11))) 17) v120.toNatClampNeg v10)) (va_up (va_up ma118 18 (upd (ma118 18) v120.toNatClampNeg v59)) 19 (upd ((va_up ma118 18 (upd (ma118 18) v120.toNatClampNeg v59)) 19) v120.toNatClampNeg z148)) from (FrB.um (FrB.um (FrB.un (FrB.un (FrB.un hfb (by first | with_reducible rfl | with_reducible assumption | omega) (by first | with_reducible rfl | with_reducible assumption | omega)) (by first | with_reducible rfl | with_reducible assumption | omega) (by first | with_reducible rfl | with_reducible assumption | omega)) (by first | with_reducible rfl | with_reducible assumption | omega) (by first | with_reducible rfl | with_reducible assumption | omega)) (by first | with_reducible rfl | with_reducible assumption | omega) (by first | with_reducible rfl | with_reducible assumption | omega)) (by first | with_reducible rfl | with_reducible assumption | omega) (by first | with_reducible rfl | with_reducible assumption | omega))), (show FrW (pf 26).toInt wa wa95 from hfw), (show ExD ta (tf 6).toInt (va_up (va_up (va_up na117 23 (upd (na117 23) v120.toNatClampNeg z160)) 16 (upd ((va_up na117 23 (upd (na117 23) v120.toNatClampNeg z160)) 16) v120.toNatClampNeg (pf 11))) 17 (upd ((va_up (va_up na117 23 (upd (na117 23) v120.toNatClampNeg z160)) 16 (upd ((va_up na117 23 (upd (na117 23) v120.toNatClampNeg z160)) 16) v120.toNatClampNeg (pf 11))) 17) v120.toNatClampNeg v10)) (va_up (va_up ma118 18 (upd (ma118 18) v120.toNatClampNeg v59)) 19 (upd ((va_up ma118 18 (upd (ma118 18) v120.toNatClampNeg v59)) 19) v120.toNatClampNeg z148)) v120 (pf 13).toInt (pf116 13).toInt (3 * (bp ta (pf116 11) - bp ta (pf 11))) (pf 12).toInt from (exd_of (ExR.le (exr_cond (ExR.le ht_v10 (Int.le_refl _) (by first | with_reducible rfl | with_reducible assumption | omega) (Int.le_refl _) (Int.le_refl _)) (ExR.le ht_v59 (Int.le_refl _) (by first | with_reducible rfl | with_reducible assumption | omega) (Int.le_refl _) (by first | with_reducible rfl | with_reducible assumption | omega)) ht_z148 (by first | with_reducible rfl | with_reducible assumption | omega) (by first | with_reducible rfl | with_reducible assumption | omega) (fun x hx => ⟨fun j => by rw [up_far hx, up_far hx, up_far hx], fun j => by rw [up_far hx, up_far hx]⟩) (by rw [va_up_n (by decide), va_up_n (by decide), va_up_n (by decide), hnk_v120.1]; rfl) (ndt_of (by rw [va_up_n (by decide), va_up_n (by decide), va_up_n (by decide), hnk_v120.2.1]) (by first | with_reducible rfl | with_reducible assumption | omega) (by first | with_reducible rfl | with_reducible assumption | omega) (by first | with_reducible rfl | with_reducible assumption | omega)) (by rw [va_up_s, pk_us]) (by rw [va_up_n (by decide), va_up_s, pk_us]) (by rw [va_up_s, pk_us]) (by rw [dp_un (by decide), dp_un (by decide), dp_us]; refine ⟨?_, ?_, ?_⟩ <;> omega) (by rw [dp_un (by decide), dp_un (by decide), dp_us]; omega) ⟨(by rw [va_up_n (by decide), va_up_n (by decide), va_up_n (by decide), hnk_v120.2.2.1]; decide), (by rw [va_up_n (by decide), va_up_n (by decide), hnk_v120.2.2.2.2]; decide)⟩ (by first | with_reducible rfl | with_reducible assumption | omega)) (by first | with_reducible rfl | with_reducible assumption | omega) (by first | with_reducible rfl | with_reducible assumption | omega) (by first | with_reducible rfl | with_reducible assumption | omega) (Int.le_refl _)) (by first | with_reducible rfl | with_reducible assumption | omega))), (show FsI (tf 6).toInt (pf116 13).toInt (va_up (va_up (va_up na117 23 (upd (na117 23) v120.toNatClampNeg z160)) 16 (upd ((va_up na117 23 (upd (na117 23) v120.toNatClampNeg z160)) 16) v120.toNatClampNeg (pf 11))) 17 (upd ((va_up (va_up na117 23 (upd (na117 23) v120.toNatClampNeg z160)) 16 (upd ((va_up na117 23 (upd (na117 23) v120.toNatClampNeg z160)) 16) v120.toNatClampNeg (pf 11))) 17) v120.toNatClampNeg v10)) from (FsI.le (FsI.un (FsI.us (FsI.un hfs (by decide)) (by first | with_reducible rfl | with_reducible assumption | omega) (by first | with_reducible rfl | with_reducible assumption | omega)) (by decide)) (by first | with_reducible rfl | with_reducible assumption | omega)))⟩) d_Mpg_conditional_197
          · have nc161 : ¬ (0 : Int) ≤ v10.toInt := mt (i_le (x := 0) (y := v10)).mpr c161
            exfalso
            omega
      · have nc130 : ¬ (0 : Int) ≤ v10.toInt := mt (i_le (x := 0) (y := v10)).mpr c130
        exfalso
        omega
    · have nc32 : ¬ (0 : Int) ≤ v10.toInt := mt (i_le (x := 0) (y := v10)).mpr c32
      refine lv_iconst (v := (-1)) S.x S.b d_Mpg_conditional_31 (by decide) ?_
      refine lv_iload_n S.x S.b d_Mpg_conditional_32 rfl (lv_at hl 1 rfl) ?_
      refine lv_isub S.x S.b d_Mpg_conditional_33 ?_
      refine lv_topi (fun z164 ez164 => ?_)
      have tz164 : z164.toInt = ((-1 : Int) - v10.toInt + 2147483648) % 4294967296 - 2147483648 := by rw [ez164]; exact i_sub (-1) v10
      have lz164 := Int32.le_toInt z164
      have uz164 := Int32.toInt_lt z164
      try replace tz164 : z164.toInt = (-1 : Int) - v10.toInt := by omega
      have ht_z164 := hxd_v10.neg (z := z164) (by first | with_reducible rfl | with_reducible assumption | omega) (by first | with_reducible rfl | with_reducible assumption | omega); have hn_ht_z164 := ht_z164.num
      refine lv_goto (tgt := 38) S.x S.b d_Mpg_conditional_34 (by decide) ?_
      refine th_callv (ps0 := [wdP cs h r g tf ta pf na ma wa cf ca ef ea xf xa]) (pr := []) (pcs := [wdP cs h r g tf ta pf5 na6 ma7 wa8 cf ca ef ea xf xa]) (As := [.int z164]) (rest := []) (c_mp_stands l D cs h r g tf ta pf5 na6 ma7 wa8 cf ca ef ea xf xa z164  (show 0 ≤ (pf5 11).toInt from by first | exact oz_06d7f15a5c e11 g0 | omega) (show (pf5 11).toInt < (tf 6).toInt from by first | exact e12 | omega) (show 0 ≤ z164.toInt from by first | exact oz_26151178c9 tz164 nc32 | omega) (show z164.toInt < 2100 from by first | exact oz_96c024f2ca tz164 hnx_v10.2 e14 g6 e12 g2 | omega) (show 0 ≤ dp na6 z164 from by first | with_reducible rfl | with_reducible assumption | omega) (show dp na6 z164 ≤ 1000 from by first | with_reducible rfl | with_reducible assumption | omega) (show 0 ≤ (pf5 12).toInt from by first | exact oz_f3ebed1ad0 e16 g3 | omega) (show (pf5 12).toInt ≤ 60 from by first | exact oz_a3db38fa3c e16 g4 | omega) hlf htk) S hT hw (oX_call (P := (fun A U H => (oN A U H) ∧ (oP A g U H))) (pr := []) (oG_and oG_N oG_P) hw hA ⟨hN, hP⟩) (px_recv hT hw 0 0 rfl rfl rfl) m12_46 m12_43 m12_45 ms_9_13 m1_21 q_Mpg_stands2 ⟨show 7 + 1 ≤ (8 * lv + 19) from by first | with_reducible rfl | with_reducible assumption | omega, show 8 + (2 + 11) + 150 ≤ (220 * lv + 690) from by first | with_reducible rfl | with_reducible assumption | omega⟩ hl.1 rfl (Nat.le_of_ble_eq_true rfl) d_Mpg_conditional_38 ⟨Nat.le_of_ble_eq_true rfl, Nat.le_of_ble_eq_true rfl⟩ hne hlk hA hAe (fun o t h => Or.inr h) ?_ (fun p165 H locs hp165 hw => ?_)
      · exact fun p1 H1 locs1 hp hw => by obtain ⟨pq1, pq2, pq3, pq4, rfl, hq1, hq2⟩ := hp; exact ⟨_, ⟨pq1, pq2, pq3, pq4, rfl, hq1, hq2⟩, hw⟩
      obtain ⟨rfl, e167⟩ := hp165
      have e167 : (pf5 12).toInt + dp na6 z164 < 60 := e167
      have hw : pw D A s.heap H locs [wdP cs h r g tf ta pf5 na6 ma7 wa8 cf ca ef ea xf xa] := hw
      refine lv_aload_n S.x S.b d_Mpg_conditional_41 rfl (lv_at hl 3 rfl) ?_
      refine th_callv (ps0 := [wdP cs h r g tf ta pf na ma wa cf ca ef ea xf xa]) (pr := []) (pcs := [wdP cs h r g tf ta pf5 na6 ma7 wa8 cf ca ef ea xf xa]) (As := []) (rest := []) (c_mp_opens l D cs h r g tf ta na6 ma7 wa8 cf ca ef ea xf xa pf5   (show 0 ≤ (pf5 11).toInt from by first | exact oz_06d7f15a5c e11 g0 | omega) (show (pf5 11).toInt < (tf 6).toInt from by first | exact e12 | omega) (show (tf 6).toInt ≤ 2049 from by first | exact g2 | omega) (show (pf5 11).toInt + 1 < (tf 6).toInt from by first | with_reducible rfl | with_reducible assumption | omega) (show 0 ≤ (pf5 12).toInt from by first | exact oz_f3ebed1ad0 e16 g3 | omega) (show (pf5 12).toInt ≤ 60 from by first | exact oz_a3db38fa3c e16 g4 | omega) hlf htk) S hT hw (oX_call (P := (fun A U H => (oN A U H) ∧ (oP A g U H))) (pr := []) (oG_and oG_N oG_P) hw hA ⟨hN, hP⟩) (px_recv hT hw 0 0 rfl rfl rfl) m11_238 m11_235 m11_237 ms_9_1 m1_21 q_Mpg_opens ⟨show 7 + 1 ≤ (8 * lv + 19) from by first | with_reducible rfl | with_reducible assumption | omega, show 8 + (1 + 11) + 150 ≤ (220 * lv + 690) from by first | with_reducible rfl | with_reducible assumption | omega⟩ hl.1 rfl (Nat.le_of_ble_eq_true rfl) d_Mpg_conditional_42 ⟨Nat.le_of_ble_eq_true rfl, Nat.le_of_ble_eq_true rfl⟩ hne hlk hA hAe (fun o t h => Or.inr h) ?_ (fun p170 H locs hp170 hw => ?_)
      · exact fun p1 H1 locs1 hp hw => by obtain ⟨pq1, pq2, pq3, pq4, rfl, hq1, hq2⟩ := hp; exact ⟨_, ⟨pq1, pq2, pq3, pq4, rfl, hq1, hq2⟩, hw⟩
      obtain ⟨pf169, rfl, e172, e173, e174, e175, e176, e177, e178, e179, e180, e181⟩ := hp170
      have e172 : (pf169 11).toInt = (pf5 11).toInt + 1 := e172
      have e173 : (pf169 11).toInt < (tf 6).toInt := e173
      have e174 : bp ta (pf5 11) + sz ta (pf5 11) ≤ bp ta (pf169 11) := e174
      have e175 : 1 ≤ sz ta (pf5 11) := e175
      have e176 : (pf169 12).toInt = (pf5 12).toInt + 1 := e176
      have e177 : (pf5 12).toInt < 60 := e177
      have e178 : (pf169 13).toInt = (pf5 13).toInt := e178
      have e179 : (pf169 24).toInt = (pf5 24).toInt := e179
      have e180 : (pf169 25).toInt = (pf5 25).toInt := e180
      have e181 : (pf169 26).toInt = (pf5 26).toInt := e181
      have hw : pw D A s.heap H locs [wdP cs h r g tf ta pf169 na6 ma7 wa8 cf ca ef ea xf xa] := hw
      refine lv_aload_n S.x S.b d_Mpg_conditional_45 rfl (lv_at hl 3 rfl) ?_
      refine th_calli (ps0 := [wdP cs h r g tf ta pf na ma wa cf ca ef ea xf xa]) (pr := []) (pcs := [wdP cs h r g tf ta pf169 na6 ma7 wa8 cf ca ef ea xf xa]) (As := []) (rest := []) ((hE.go (by first | with_reducible rfl | with_reducible assumption | omega)).1 h r g tf ta cf ca ef ea xf xa pf169 na6 ma7 wa8   (show 0 ≤ (pf169 11).toInt from by first | exact oz_184ed96a99 e172 e11 g0 | omega) (show (pf169 11).toInt < (tf 6).toInt from by first | exact e173 | omega) (show (tf 6).toInt ≤ 2049 from by first | exact g2 | omega) (show 0 ≤ (pf169 12).toInt from by first | exact oz_87be06313f e176 e16 g8 g7 | omega) (show (pf169 12).toInt ≤ 60 from by first | exact oz_6710fd9021 e176 e177 | omega) (show 0 ≤ (pf169 13).toInt from by first | exact oz_bd8959faaf e178 hnx_v10.1 hnx_v10.2 | omega) (show (pf169 13).toInt ≤ (pf169 11).toInt + 20 from by first | exact oz_815a17a6fa e172 e178 e14 g6 | omega) (show 0 ≤ (pf169 26).toInt from by first | exact oz_e2fef14871 e181 e19 g7 | omega) (show (pf169 26).toInt ≤ (pf169 12).toInt from by first | exact oz_e919e29b70 e176 e181 e16 e19 g8 | omega) (show 61 ≤ (pf169 12).toInt + ((lv - 1 : Nat) : Int) from by first | with_reducible rfl | with_reducible assumption | omega) (show lv - 1 ≤ 61 from by first | with_reducible rfl | with_reducible assumption | omega) hlf htk (FsI.le (N' := (pf169 13).toInt) hfs (by first | with_reducible rfl | with_reducible assumption | omega))) S hT hw (oX_call (P := (fun A U H => (oN A U H) ∧ (oP A g U H))) (pr := []) (oG_and oG_N oG_P) hw hA ⟨hN, hP⟩) (px_recv hT hw 0 0 rfl rfl rfl) m12_38 m12_35 m12_37 ms_9_11 m1_21 q_Mpg_expression ⟨show (8 * (lv - 1) + 20) + 1 ≤ (8 * lv + 19) from by first | with_reducible rfl | with_reducible assumption | omega, show 8 + (7 + 11) + (220 * (lv - 1) + 720) ≤ (220 * lv + 690) from by first | with_reducible rfl | with_reducible assumption | omega⟩ hl.1 rfl (Nat.le_of_ble_eq_true rfl) d_Mpg_conditional_46 ⟨Nat.le_of_ble_eq_true rfl, Nat.le_of_ble_eq_true rfl⟩ hne hlk hA hAe (fun o t h => Or.inr h) ?_ (fun v191 p190 H locs hp190 hw => ?_)
      · exact fun p1 H1 locs1 hp hw => by obtain ⟨pq1, pq2, pq3, pq4, rfl, hq1, hq2⟩ := hp; exact ⟨_, ⟨pq1, pq2, pq3, pq4, rfl, hq1, hq2⟩, hw⟩
      obtain ⟨pf186, na187, ma188, wa189, rfl, e192, e193, e194, e195, e196, e197, e198, e199, e200, e201, e202, e203, e204⟩ := hp190
      have e192 : (pf169 11).toInt + 1 ≤ (pf186 11).toInt := e192
      have e193 : (pf186 11).toInt < (tf 6).toInt := e193
      have e194 : (pf169 13).toInt + 1 ≤ (pf186 13).toInt := e194
      have e195 : (pf186 13).toInt - (pf169 13).toInt ≤ (pf186 11).toInt - (pf169 11).toInt := e195
      have e196 : bp ta (pf169 11) + 1 ≤ bp ta (pf186 11) := e196
      have e197 : (pf186 12).toInt = (pf169 12).toInt := e197
      have e198 : (pf186 24).toInt = (pf169 24).toInt := e198
      have e199 : (pf186 25).toInt = (pf169 25).toInt := e199
      have e200 : (pf186 26).toInt = (pf169 26).toInt := e200
      have e201 : FrB (pf169 13).toInt na6 ma7 na187 ma188 := e201
      have ht_z164 := ht_z164.kp (FrB.le e201 (by first | with_reducible rfl | with_reducible assumption | omega)) (by first | with_reducible rfl | with_reducible assumption | omega)
      have hn_ht_z164 := ht_z164.num
      have hdq_z164 := dp_fb (x := z164) e201 (by first | with_reducible rfl | with_reducible assumption | omega) (by first | with_reducible rfl | with_reducible assumption | omega)
      have hxd_v10 := hxd_v10.kp (FrB.le e201 (by first | with_reducible rfl | with_reducible assumption | omega)) (by first | with_reducible rfl | with_reducible assumption | omega)
      have hfb := hfb.tr e201 (by first | with_reducible rfl | with_reducible assumption | omega)
      have e202 : FrW (pf169 26).toInt wa8 wa189 := e202
      have hfw := hfw.tr e202 (by first | with_reducible rfl | with_reducible assumption | omega)
      have e203 : ExR ta (tf 6).toInt na187 ma188 v191 (pf169 13).toInt (pf186 13).toInt (3 * (bp ta (pf186 11) - bp ta (pf169 11))) (pf169 12).toInt := e203
      have ht_v191 := e203
      have hn_ht_v191 := ht_v191.num
      have e204 : FsI (tf 6).toInt (pf186 13).toInt na187 := e204
      have hfs := e204
      have hw : pw D A s.heap H locs [wdP cs h r g tf ta pf186 na187 ma188 wa189 cf ca ef ea xf xa] := hw
      have lv191 := Int32.le_toInt v191
      have uv191 := Int32.toInt_lt v191
      refine lv_istore (lv' := [(4, .int v191), (3, .int (pf5 11)), (2, .int v10), (1, .int (pf 11)), (0, .ref h)]) S.x S.b d_Mpg_conditional_49 hl (by decide) rfl (fun ls hl => ?_)
      refine lv_aload_n S.x S.b d_Mpg_conditional_51 rfl (lv_at hl 4 rfl) ?_
      obtain ⟨sk205, hRsk205, st206, sb207, hSsk205⟩ := oP_lit hP (k := 103) (tx := ":") (n := 1) (List.mem_of_getElem? (i := 43) rfl)
      refine va_ldcS S.x S.b S.own hRsk205 d_Mpg_conditional_52 ?_
      refine th_callv (ps0 := [wdP cs h r g tf ta pf na ma wa cf ca ef ea xf xa]) (pr := []) (pcs := [wdP cs h r g tf ta pf186 na187 ma188 wa189 cf ca ef ea xf xa]) (As := [.ref sk205]) (rest := []) (c_mp_take l D cs sk205 1 h r g tf ta na187 ma188 wa189 cf ca ef ea xf xa pf186   (show 0 ≤ (pf186 11).toInt from by first | exact oz_06fa2c383c e192 e172 g0 e11 | omega) (show (pf186 11).toInt < (tf 6).toInt from by first | exact e193 | omega) (show (tf 6).toInt ≤ 2049 from by first | exact g2 | omega) (show 1 ≤ 100 from by first | decide | omega) hlf htk) S hT hw (oX_call (P := (fun A U H => (oN A U H) ∧ (oP A g U H) ∧ (StS A sk205 1 U H))) (pr := []) (oG_and oG_N (oG_and oG_P oG_Q)) hw hA ⟨hN, hP, ⟨_, _, hSsk205⟩⟩) (px_recv hT hw 0 0 rfl rfl rfl) m12_57 m12_54 m12_56 ms_9_15 m1_21 q_Mpg_take ⟨show 7 + 1 ≤ (8 * lv + 19) from by first | with_reducible rfl | with_reducible assumption | omega, show 8 + (2 + 11) + 230 ≤ (220 * lv + 690) from by first | with_reducible rfl | with_reducible assumption | omega⟩ hl.1 rfl (Nat.le_of_ble_eq_true rfl) d_Mpg_conditional_54 ⟨Nat.le_of_ble_eq_true rfl, Nat.le_of_ble_eq_true rfl⟩ hne hlk hA hAe (fun o t h => Or.inr h) ?_ (fun p210 H locs hp210 hw => ?_)
      · exact fun p1 H1 locs1 hp hw => by obtain ⟨pq1, pq2, pq3, pq4, rfl, hq1, hq2⟩ := hp; exact ⟨_, ⟨pq1, pq2, pq3, pq4, rfl, hq1, hq2⟩, hw⟩
      obtain ⟨pf209, rfl, e212, e213, e214, e215, e216, e217, e218, e219⟩ := hp210
      have e212 : (pf209 11).toInt = (pf186 11).toInt + 1 := e212
      have e213 : (pf209 11).toInt < (tf 6).toInt := e213
      have e214 : bp ta (pf186 11) + 1 ≤ bp ta (pf209 11) := e214
      have e215 : (pf209 12).toInt = (pf186 12).toInt := e215
      have e216 : (pf209 13).toInt = (pf186 13).toInt := e216
      have e217 : (pf209 24).toInt = (pf186 24).toInt := e217
      have e218 : (pf209 25).toInt = (pf186 25).toInt := e218
      have e219 : (pf209 26).toInt = (pf186 26).toInt := e219
      have hw : pw D A s.heap H locs [wdP cs h r g tf ta pf209 na187 ma188 wa189 cf ca ef ea xf xa] := hw
      refine lv_aload_n S.x S.b d_Mpg_conditional_57 rfl (lv_at hl 4 rfl) ?_
      refine th_calli (ps0 := [wdP cs h r g tf ta pf na ma wa cf ca ef ea xf xa]) (pr := []) (pcs := [wdP cs h r g tf ta pf209 na187 ma188 wa189 cf ca ef ea xf xa]) (As := []) (rest := []) ((hE.go (by first | with_reducible rfl | with_reducible assumption | omega)).2 h r g tf ta cf ca ef ea xf xa pf209 na187 ma188 wa189   (show 0 ≤ (pf209 11).toInt from by first | exact oz_954c9acc8e e212 e192 g0 e11 e172 | omega) (show (pf209 11).toInt < (tf 6).toInt from by first | exact e213 | omega) (show (tf 6).toInt ≤ 2049 from by first | exact g2 | omega) (show 0 ≤ (pf209 12).toInt from by first | exact oz_cffcf29412 e215 e197 e176 e16 g8 g7 | omega) (show (pf209 12).toInt ≤ 60 from by first | exact oz_51eeb0c7ba e215 e197 e176 e177 | omega) (show 0 ≤ (pf209 13).toInt from by first | exact oz_e8098791ea e216 e194 e178 hnx_v10.1 hnx_v10.2 | omega) (show (pf209 13).toInt ≤ (pf209 11).toInt + 20 from by first | exact oz_301eea1e0b e212 e216 e195 g6 e14 e172 e178 | omega) (show 0 ≤ (pf209 26).toInt from by first | exact oz_00b9fbaef4 e219 e200 e181 e19 g7 | omega) (show (pf209 26).toInt ≤ (pf209 12).toInt from by first | exact oz_3357ca9d54 e215 e219 e197 e200 e176 e181 e16 e19 g8 | omega) (show 61 ≤ (pf209 12).toInt + ((lv - 1 : Nat) : Int) from by first | with_reducible rfl | with_reducible assumption | omega) (show lv - 1 ≤ 61 from by first | with_reducible rfl | with_reducible assumption | omega) hlf htk (FsI.le (N' := (pf209 13).toInt) hfs (by first | with_reducible rfl | with_reducible assumption | omega))) S hT hw (oX_call (P := (fun A U H => (oN A U H) ∧ (oP A g U H))) (pr := []) (oG_and oG_N oG_P) hw hA ⟨hN, hP⟩) (px_recv hT hw 0 0 rfl rfl rfl) m12_14 m12_11 m12_13 ms_9_5 m1_21 q_Mpg_conditional ⟨show (8 * (lv - 1) + 19) + 1 ≤ (8 * lv + 19) from by first | with_reducible rfl | with_reducible assumption | omega, show 8 + (7 + 11) + (220 * (lv - 1) + 690) ≤ (220 * lv + 690) from by first | with_reducible rfl | with_reducible assumption | omega⟩ hl.1 rfl (Nat.le_of_ble_eq_true rfl) d_Mpg_conditional_58 ⟨Nat.le_of_ble_eq_true rfl, Nat.le_of_ble_eq_true rfl⟩ hne hlk hA hAe (fun o t h => Or.inr h) ?_ (fun v229 p228 H locs hp228 hw => ?_)
      · exact fun p1 H1 locs1 hp hw => by obtain ⟨pq1, pq2, pq3, pq4, rfl, hq1, hq2⟩ := hp; exact ⟨_, ⟨pq1, pq2, pq3, pq4, rfl, hq1, hq2⟩, hw⟩
      obtain ⟨pf224, na225, ma226, wa227, rfl, e230, e231, e232, e233, e234, e235, e236, e237, e238, e239, e240, e241, e242⟩ := hp228
      have e230 : (pf209 11).toInt + 1 ≤ (pf224 11).toInt := e230
      have e231 : (pf224 11).toInt < (tf 6).toInt := e231
      have e232 : (pf209 13).toInt + 1 ≤ (pf224 13).toInt := e232
      have e233 : (pf224 13).toInt - (pf209 13).toInt ≤ (pf224 11).toInt - (pf209 11).toInt := e233
      have e234 : bp ta (pf209 11) + 1 ≤ bp ta (pf224 11) := e234
      have e235 : (pf224 12).toInt = (pf209 12).toInt := e235
      have e236 : (pf224 24).toInt = (pf209 24).toInt := e236
      have e237 : (pf224 25).toInt = (pf209 25).toInt := e237
      have e238 : (pf224 26).toInt = (pf209 26).toInt := e238
      have e239 : FrB (pf209 13).toInt na187 ma188 na225 ma226 := e239
      have ht_z164 := ht_z164.kp (FrB.le e239 (by first | with_reducible rfl | with_reducible assumption | omega)) (by first | with_reducible rfl | with_reducible assumption | omega)
      have hn_ht_z164 := ht_z164.num
      have hdq_z164 := dp_fb (x := z164) e239 (by first | with_reducible rfl | with_reducible assumption | omega) (by first | with_reducible rfl | with_reducible assumption | omega)
      have ht_v191 := ht_v191.kp (FrB.le e239 (by first | with_reducible rfl | with_reducible assumption | omega)) (by first | with_reducible rfl | with_reducible assumption | omega)
      have hn_ht_v191 := ht_v191.num
      have hdq_v191 := dp_fb (x := v191) e239 (by first | with_reducible rfl | with_reducible assumption | omega) (by first | with_reducible rfl | with_reducible assumption | omega)
      have hxd_v10 := hxd_v10.kp (FrB.le e239 (by first | with_reducible rfl | with_reducible assumption | omega)) (by first | with_reducible rfl | with_reducible assumption | omega)
      have hfb := hfb.tr e239 (by first | with_reducible rfl | with_reducible assumption | omega)
      have e240 : FrW (pf209 26).toInt wa189 wa227 := e240
      have hfw := hfw.tr e240 (by first | with_reducible rfl | with_reducible assumption | omega)
      have e241 : ExD ta (tf 6).toInt na225 ma226 v229 (pf209 13).toInt (pf224 13).toInt (3 * (bp ta (pf224 11) - bp ta (pf209 11))) (pf209 12).toInt := e241
      have hxd_v229 := e241
      have hnx_v229 := hxd_v229.num
      have e242 : FsI (tf 6).toInt (pf224 13).toInt na225 := e242
      have hfs := e242
      have hw : pw D A s.heap H locs [wdP cs h r g tf ta pf224 na225 ma226 wa227 cf ca ef ea xf xa] := hw
      have lv229 := Int32.le_toInt v229
      have uv229 := Int32.toInt_lt v229
      refine lv_istore (lv' := [(5, .int v229), (4, .int v191), (3, .int (pf5 11)), (2, .int v10), (1, .int (pf 11)), (0, .ref h)]) S.x S.b d_Mpg_conditional_61 hl (by decide) rfl (fun ls hl => ?_)
      refine lv_aload_n S.x S.b d_Mpg_conditional_63 rfl (lv_at hl 5 rfl) ?_
      refine lv_dup S.x S.b d_Mpg_conditional_64 rfl ?_
      refine px_get S k_Mpg hT hw 0 0 12 (v := .int (pf224 12)) rfl rfl rfl (by decide) m9_236 d_Mpg_conditional_65 ?_
      refine lv_iconst (v := 1) S.x S.b d_Mpg_conditional_68 (by decide) ?_
      refine lv_isub S.x S.b d_Mpg_conditional_69 ?_
      have lr243 := Int32.le_toInt (pf224 12)
      have ur243 := Int32.toInt_lt (pf224 12)
      refine lv_topi (fun z244 ez244 => ?_)
      have tz244 : z244.toInt = ((pf224 12).toInt - (1 : Int) + 2147483648) % 4294967296 - 2147483648 := by rw [ez244]; exact i_sub (pf224 12) 1
      have lz244 := Int32.le_toInt z244
      have uz244 := Int32.toInt_lt z244
      try replace tz244 : z244.toInt = (pf224 12).toInt - (1 : Int) := by omega
      refine px_put S k_Mpg hT hw 0 0 12 rfl rfl (by decide) m9_236 rfl rfl rfl (Nat.le_of_ble_eq_true rfl) d_Mpg_conditional_70 (w' := wdP cs h r g tf ta (upd pf224 12 z244) na225 ma226 wa227 cf ca ef ea xf xa) (ps' := [wdP cs h r g tf ta (upd pf224 12 z244) na225 ma226 wa227 cf ca ef ea xf xa]) rfl rfl (fun H locs hw => ?_)
      refine lv_aload_n S.x S.b d_Mpg_conditional_73 rfl (lv_at hl 5 rfl) ?_
      refine lv_bipush (v := 8) S.x S.b d_Mpg_conditional_74 (by decide) ?_
      refine lv_iload_n S.x S.b d_Mpg_conditional_76 rfl (lv_at hl 2 rfl) ?_
      refine px_calli (pr := []) (px_runV (As := [.int 8, .int (pf5 11)]) (rest := []) S (c_mp_make l D cs h r g tf ta wa227 cf ca ef ea xf xa (upd pf224 12 z244) na225 ma226 8 (pf5 11)  (show 0 ≤ (pf224 13).toInt from by first | exact oz_54eba00cf9 hnx_v229.1 hnx_v229.2 | omega) (show (pf224 13).toInt < 2100 from by first | exact oz_4f78757f1c e233 e212 e216 e231 g2 e195 g6 e14 e172 e178 | omega) _) hT (pr := []) (pcs := [wdP cs h r g tf ta (upd pf224 12 z244) na225 ma226 wa227 cf ca ef ea xf xa]) hw px_X.tt (px_recv hT hw 0 0 rfl rfl rfl) m11_209 m11_206 m11_208 ms_8_12 m1_21 q_Mpg_make ⟨show 0 + 1 ≤ (8 * lv + 19) from by first | with_reducible rfl | with_reducible assumption | omega, show 8 + (3 + 11) + 0 ≤ (220 * lv + 690) from by first | with_reducible rfl | with_reducible assumption | omega⟩ hl.1 rfl (Nat.le_of_ble_eq_true rfl) d_Mpg_conditional_77 ⟨Nat.le_of_ble_eq_true rfl, Nat.le_of_ble_eq_true rfl⟩) hw hA (fun v252 p251 H locs hp251 hw => ?_)
      obtain ⟨pf248, na249, ma250, rfl, e253, e254, e255, e256, e257, e258, e259, e260⟩ := hp251
      have e253 : v252.toInt = (pf224 13).toInt := e253
      have e254 : (pf248 13).toInt = (pf224 13).toInt + 1 := e254
      have e255 : (pf248 11).toInt = (pf224 11).toInt := e255
      have e256 : (pf248 12).toInt = z244.toInt := e256
      have e257 : (pf248 24).toInt = (pf224 24).toInt := e257
      have e258 : (pf248 25).toInt = (pf224 25).toInt := e258
      have e259 : (pf248 26).toInt = (pf224 26).toInt := e259
      have e260 : MkN na225 ma226 na249 ma250 v252 (8 : Int32) (pf5 11) := e260
      obtain ⟨qb2611, qb2612, qb2613, qb2614⟩ := tk_eq (ta := ta) (x := (pf248 11)) (y := (pf224 11)) (by first | with_reducible rfl | with_reducible assumption | omega)
      have hmk_v252 := e260
      have hfm_v252 := MkN.frb (b := v252.toInt) hmk_v252 (by first | with_reducible rfl | with_reducible assumption | omega) (by first | with_reducible rfl | with_reducible assumption | omega)
      have ht_z164 := ht_z164.kp (FrB.le hfm_v252 (by first | with_reducible rfl | with_reducible assumption | omega)) (by first | with_reducible rfl | with_reducible assumption | omega)
      have hn_ht_z164 := ht_z164.num
      have hdq_z164 := dp_fb (x := z164) hfm_v252 (by first | with_reducible rfl | with_reducible assumption | omega) (by first | with_reducible rfl | with_reducible assumption | omega)
      have ht_v191 := ht_v191.kp (FrB.le hfm_v252 (by first | with_reducible rfl | with_reducible assumption | omega)) (by first | with_reducible rfl | with_reducible assumption | omega)
      have hn_ht_v191 := ht_v191.num
      have hdq_v191 := dp_fb (x := v191) hfm_v252 (by first | with_reducible rfl | with_reducible assumption | omega) (by first | with_reducible rfl | with_reducible assumption | omega)
      have hxd_v10 := hxd_v10.kp (FrB.le hfm_v252 (by first | with_reducible rfl | with_reducible assumption | omega)) (by first | with_reducible rfl | with_reducible assumption | omega)
      have hxd_v229 := hxd_v229.kp (FrB.le hfm_v252 (by first | with_reducible rfl | with_reducible assumption | omega)) (by first | with_reducible rfl | with_reducible assumption | omega)
      have hfs := FsI.mk hfs hmk_v252 (by first | with_reducible rfl | with_reducible assumption | omega) (by first | with_reducible rfl | with_reducible assumption | omega) (by first | with_reducible rfl | with_reducible assumption | omega) (by first | with_reducible rfl | with_reducible assumption | omega)
      have hfb := hfb.tr hfm_v252 (by first | with_reducible rfl | with_reducible assumption | omega)
      have hnk_v252 := hmk_v252.nk (by decide) (by decide) (by first | with_reducible rfl | with_reducible assumption | omega)
      have hdn_v252 := dp_nk hmk_v252
      have hw : pw D A s.heap H locs [wdP cs h r g tf ta pf248 na249 ma250 wa227 cf ca ef ea xf xa] := hw
      have lv252 := Int32.le_toInt v252
      have uv252 := Int32.toInt_lt v252
      refine lv_istore (lv' := [(6, .int v252), (5, .int v229), (4, .int v191), (3, .int (pf5 11)), (2, .int v10), (1, .int (pf 11)), (0, .ref h)]) S.x S.b d_Mpg_conditional_80 hl (by decide) rfl (fun ls hl => ?_)
      refine lv_aload_n S.x S.b d_Mpg_conditional_82 rfl (lv_at hl 6 rfl) ?_
      refine px_get S k_Mpg hT hw 0 0 23 (v := .ref (r 23)) rfl rfl rfl (by decide) m10_11 d_Mpg_conditional_83 ?_
      refine lv_iload S.x S.b d_Mpg_conditional_86 (lv_at hl 0 rfl) ?_
      refine lv_iconst (v := 1) S.x S.b d_Mpg_conditional_88 (by decide) ?_
      refine lv_aload_n S.x S.b d_Mpg_conditional_89 rfl (lv_at hl 6 rfl) ?_
      refine px_get S k_Mpg hT hw 0 0 23 (v := .ref (r 23)) rfl rfl rfl (by decide) m10_11 d_Mpg_conditional_90 ?_
      refine lv_iload_n S.x S.b d_Mpg_conditional_93 rfl (lv_at hl 4 rfl) ?_
      refine lv_if_ge (tgt := 103) S.x S.b d_Mpg_conditional_94 (by decide) (fun c262 => ?_) (fun c262 => ?_)
      · have nc262 : (0 : Int) ≤ v10.toInt := (i_le (x := 0) (y := v10)).mp c262
        exfalso
        omega
      · have nc262 : ¬ (0 : Int) ≤ v10.toInt := mt (i_le (x := 0) (y := v10)).mpr c262
        refine lv_iconst (v := (-1)) S.x S.b d_Mpg_conditional_97 (by decide) ?_
        refine lv_iload_n S.x S.b d_Mpg_conditional_98 rfl (lv_at hl 4 rfl) ?_
        refine lv_isub S.x S.b d_Mpg_conditional_99 ?_
        refine lv_topi (fun z263 ez263 => ?_)
        have tz263 : z263.toInt = ((-1 : Int) - v10.toInt + 2147483648) % 4294967296 - 2147483648 := by rw [ez263]; exact i_sub (-1) v10
        have lz263 := Int32.le_toInt z263
        have uz263 := Int32.toInt_lt z263
        try replace tz263 : z263.toInt = (-1 : Int) - v10.toInt := by omega
        have hsz263 : z164 = z263 := i_eq.mpr (by first | with_reducible rfl | with_reducible assumption | omega); subst hsz263
        refine lv_goto (tgt := 104) S.x S.b d_Mpg_conditional_100 (by decide) ?_
        refine px_iald S hT hw 0 19 (n := 2100) (f := (na249 23)) rfl gp_23 (x := z164) (vp_in_iff.mpr (by first | exact oz_25605124ac tz164 nc32 hnx_v10.2 e14 g6 e172 g2 e192 e212 e231 e230 | (constructor <;> omega))) d_Mpg_conditional_104 ?_
        refine lv_topi (fun z264 ez264 => ?_)
        have lz264 := Int32.le_toInt z264
        have uz264 := Int32.toInt_lt z264
        have rz264 : z264.toInt = dp na249 z164 := by rw [ez264]; rfl
        refine lv_aload_n S.x S.b d_Mpg_conditional_105 rfl (lv_at hl 6 rfl) ?_
        refine px_get S k_Mpg hT hw 0 0 23 (v := .ref (r 23)) rfl rfl rfl (by decide) m10_11 d_Mpg_conditional_106 ?_
        refine lv_iload S.x S.b d_Mpg_conditional_109 (lv_at hl 2 rfl) ?_
        refine px_iald S hT hw 0 19 (n := 2100) (f := (na249 23)) rfl gp_23 (x := v191) (vp_in_iff.mpr (by constructor <;> omega)) d_Mpg_conditional_111 ?_
        refine lv_topi (fun z265 ez265 => ?_)
        have lz265 := Int32.le_toInt z265
        have uz265 := Int32.toInt_lt z265
        have rz265 : z265.toInt = dp na249 v191 := by rw [ez265]; rfl
        refine lv_aload_n S.x S.b d_Mpg_conditional_112 rfl (lv_at hl 6 rfl) ?_
        refine px_get S k_Mpg hT hw 0 0 23 (v := .ref (r 23)) rfl rfl rfl (by decide) m10_11 d_Mpg_conditional_113 ?_
        refine lv_iload S.x S.b d_Mpg_conditional_116 (lv_at hl 1 rfl) ?_
        refine lv_if_ge (tgt := 128) S.x S.b d_Mpg_conditional_118 (by decide) (fun c266 => ?_) (fun c266 => ?_)
        · have nc266 : (0 : Int) ≤ v229.toInt := (i_le (x := 0) (y := v229)).mp c266
          refine lv_iload S.x S.b d_Mpg_conditional_128 (lv_at hl 1 rfl) ?_
          have ht_v229 := hxd_v229.pos (by first | with_reducible rfl | with_reducible assumption | omega); have hn_ht_v229 := ht_v229.num
          refine px_iald S hT hw 0 19 (n := 2100) (f := (na249 23)) rfl gp_23 (x := v229) (vp_in_iff.mpr (by first | exact oz_5801cd9f67 nc266 hnx_v229.1 e233 e212 e216 e231 g2 e195 g6 e14 e172 e178 | (constructor <;> omega))) d_Mpg_conditional_130 ?_
          refine lv_topi (fun z267 ez267 => ?_)
          have lz267 := Int32.le_toInt z267
          have uz267 := Int32.toInt_lt z267
          have rz267 : z267.toInt = dp na249 v229 := by rw [ez267]; rfl
          refine px_calli (pr := [wdP cs h r g tf ta pf248 na249 ma250 wa227 cf ca ef ea xf xa]) (px_runS (As := [.int z265, .int z267]) (rest := [.int z264, .int 1, .int v252, .ref (r 23)]) S (c_mp_deeper l D cs  z265 z267   _) hT (pr := [wdP cs h r g tf ta pf248 na249 ma250 wa227 cf ca ef ea xf xa]) (pcs := []) hw px_X.tt m12_49 m12_47 m12_48 m1_21 q_Mpg_deeper ⟨show 0 + 1 ≤ (8 * lv + 19) from by first | with_reducible rfl | with_reducible assumption | omega, show 8 + (2 + 11) + 0 ≤ (220 * lv + 690) from by first | with_reducible rfl | with_reducible assumption | omega⟩ hl.1 rfl (Nat.le_of_ble_eq_true rfl) d_Mpg_conditional_131 ⟨Nat.le_of_ble_eq_true rfl, Nat.le_of_ble_eq_true rfl⟩) hw hA (fun v269 p268 H locs hp268 hw => ?_)
          obtain ⟨rfl, e270, e271, e272⟩ := hp268
          have e270 : z265.toInt ≤ v269.toInt := e270
          have e271 : z267.toInt ≤ v269.toInt := e271
          have e272 : v269.toInt = z265.toInt ∨ v269.toInt = z267.toInt := e272
          have hw : pw D A s.heap H locs [wdP cs h r g tf ta pf248 na249 ma250 wa227 cf ca ef ea xf xa] := hw
          have lv269 := Int32.le_toInt v269
          have uv269 := Int32.toInt_lt v269
          refine px_calli (pr := [wdP cs h r g tf ta pf248 na249 ma250 wa227 cf ca ef ea xf xa]) (px_runS (As := [.int z264, .int v269]) (rest := [.int 1, .int v252, .ref (r 23)]) S (c_mp_deeper l D cs  z264 v269   _) hT (pr := [wdP cs h r g tf ta pf248 na249 ma250 wa227 cf ca ef ea xf xa]) (pcs := []) hw px_X.tt m12_49 m12_47 m12_48 m1_21 q_Mpg_deeper ⟨show 0 + 1 ≤ (8 * lv + 19) from by first | with_reducible rfl | with_reducible assumption | omega, show 8 + (2 + 11) + 0 ≤ (220 * lv + 690) from by first | with_reducible rfl | with_reducible assumption | omega⟩ hl.1 rfl (Nat.le_of_ble_eq_true rfl) d_Mpg_conditional_134 ⟨Nat.le_of_ble_eq_true rfl, Nat.le_of_ble_eq_true rfl⟩) hw hA (fun v274 p273 H locs hp273 hw => ?_)
          obtain ⟨rfl, e275, e276, e277⟩ := hp273
          have e275 : z264.toInt ≤ v274.toInt := e275
          have e276 : v269.toInt ≤ v274.toInt := e276
          have e277 : v274.toInt = z264.toInt ∨ v274.toInt = v269.toInt := e277
          have hw : pw D A s.heap H locs [wdP cs h r g tf ta pf248 na249 ma250 wa227 cf ca ef ea xf xa] := hw
          have lv274 := Int32.le_toInt v274
          have uv274 := Int32.toInt_lt v274
          refine lv_iadd S.x S.b d_Mpg_conditional_137 ?_
          refine lv_topi (fun z278 ez278 => ?_)
          have tz278 : z278.toInt = ((1 : Int) + v274.toInt + 2147483648) % 4294967296 - 2147483648 := by rw [ez278]; exact i_add 1 v274
          have lz278 := Int32.le_toInt z278
          have uz278 := Int32.toInt_lt z278
          try replace tz278 : z278.toInt = (1 : Int) + v274.toInt := by omega
          refine px_iast S hT hw 0 19 (n := 2100) (f := (na249 23)) (x := v252) (y := z278) rfl gp_23 (vp_in_iff.mpr (by constructor <;> omega)) d_Mpg_conditional_138 (w' := wdP cs h r g tf ta pf248 (va_up na249 23 (upd (na249 23) v252.toNatClampNeg z278)) ma250 wa227 cf ca ef ea xf xa) (ps' := [wdP cs h r g tf ta pf248 (va_up na249 23 (upd (na249 23) v252.toNatClampNeg z278)) ma250 wa227 cf ca ef ea xf xa]) sp_23 rfl (fun H locs hw => ?_)
          refine lv_aload_n S.x S.b d_Mpg_conditional_139 rfl (lv_at hl 6 rfl) ?_
          refine px_get S k_Mpg hT hw 0 0 16 (v := .ref (r 16)) rfl rfl rfl (by decide) m10_0 d_Mpg_conditional_140 ?_
          refine lv_iload S.x S.b d_Mpg_conditional_143 (lv_at hl 0 rfl) ?_
          refine lv_iload_n S.x S.b d_Mpg_conditional_145 rfl (lv_at hl 5 rfl) ?_
          refine px_iast S hT hw 0 12 (n := 2100) (f := ((va_up na249 23 (upd (na249 23) v252.toNatClampNeg z278)) 16)) (x := v252) (y := (pf 11)) rfl gp_16 (vp_in_iff.mpr (by constructor <;> omega)) d_Mpg_conditional_146 (w' := wdP cs h r g tf ta pf248 (va_up (va_up na249 23 (upd (na249 23) v252.toNatClampNeg z278)) 16 (upd ((va_up na249 23 (upd (na249 23) v252.toNatClampNeg z278)) 16) v252.toNatClampNeg (pf 11))) ma250 wa227 cf ca ef ea xf xa) (ps' := [wdP cs h r g tf ta pf248 (va_up (va_up na249 23 (upd (na249 23) v252.toNatClampNeg z278)) 16 (upd ((va_up na249 23 (upd (na249 23) v252.toNatClampNeg z278)) 16) v252.toNatClampNeg (pf 11))) ma250 wa227 cf ca ef ea xf xa]) sp_16 rfl (fun H locs hw => ?_)
          refine lv_aload_n S.x S.b d_Mpg_conditional_147 rfl (lv_at hl 6 rfl) ?_
          refine px_get S k_Mpg hT hw 0 0 17 (v := .ref (r 17)) rfl rfl rfl (by decide) m10_1 d_Mpg_conditional_148 ?_
          refine lv_iload S.x S.b d_Mpg_conditional_151 (lv_at hl 0 rfl) ?_
          refine lv_iload_n S.x S.b d_Mpg_conditional_153 rfl (lv_at hl 4 rfl) ?_
          refine lv_if_ge (tgt := 163) S.x S.b d_Mpg_conditional_154 (by decide) (fun c279 => ?_) (fun c279 => ?_)
          · have nc279 : (0 : Int) ≤ v10.toInt := (i_le (x := 0) (y := v10)).mp c279
            exfalso
            omega
          · have nc279 : ¬ (0 : Int) ≤ v10.toInt := mt (i_le (x := 0) (y := v10)).mpr c279
            refine lv_iconst (v := (-1)) S.x S.b d_Mpg_conditional_157 (by decide) ?_
            refine lv_iload_n S.x S.b d_Mpg_conditional_158 rfl (lv_at hl 4 rfl) ?_
            refine lv_isub S.x S.b d_Mpg_conditional_159 ?_
            refine lv_topi (fun z280 ez280 => ?_)
            have tz280 : z280.toInt = ((-1 : Int) - v10.toInt + 2147483648) % 4294967296 - 2147483648 := by rw [ez280]; exact i_sub (-1) v10
            have lz280 := Int32.le_toInt z280
            have uz280 := Int32.toInt_lt z280
            try replace tz280 : z280.toInt = (-1 : Int) - v10.toInt := by omega
            have hsz280 : z164 = z280 := i_eq.mpr (by first | with_reducible rfl | with_reducible assumption | omega); subst hsz280
            refine lv_goto (tgt := 164) S.x S.b d_Mpg_conditional_160 (by decide) ?_
            refine px_iast S hT hw 0 13 (n := 2100) (f := ((va_up (va_up na249 23 (upd (na249 23) v252.toNatClampNeg z278)) 16 (upd ((va_up na249 23 (upd (na249 23) v252.toNatClampNeg z278)) 16) v252.toNatClampNeg (pf 11))) 17)) (x := v252) (y := z164) rfl gp_17 (vp_in_iff.mpr (by constructor <;> omega)) d_Mpg_conditional_164 (w' := wdP cs h r g tf ta pf248 (va_up (va_up (va_up na249 23 (upd (na249 23) v252.toNatClampNeg z278)) 16 (upd ((va_up na249 23 (upd (na249 23) v252.toNatClampNeg z278)) 16) v252.toNatClampNeg (pf 11))) 17 (upd ((va_up (va_up na249 23 (upd (na249 23) v252.toNatClampNeg z278)) 16 (upd ((va_up na249 23 (upd (na249 23) v252.toNatClampNeg z278)) 16) v252.toNatClampNeg (pf 11))) 17) v252.toNatClampNeg z164)) ma250 wa227 cf ca ef ea xf xa) (ps' := [wdP cs h r g tf ta pf248 (va_up (va_up (va_up na249 23 (upd (na249 23) v252.toNatClampNeg z278)) 16 (upd ((va_up na249 23 (upd (na249 23) v252.toNatClampNeg z278)) 16) v252.toNatClampNeg (pf 11))) 17 (upd ((va_up (va_up na249 23 (upd (na249 23) v252.toNatClampNeg z278)) 16 (upd ((va_up na249 23 (upd (na249 23) v252.toNatClampNeg z278)) 16) v252.toNatClampNeg (pf 11))) 17) v252.toNatClampNeg z164)) ma250 wa227 cf ca ef ea xf xa]) sp_17 rfl (fun H locs hw => ?_)
            refine lv_aload_n S.x S.b d_Mpg_conditional_165 rfl (lv_at hl 6 rfl) ?_
            refine px_get S k_Mpg hT hw 0 0 18 (v := .ref (r 18)) rfl rfl rfl (by decide) m10_3 d_Mpg_conditional_166 ?_
            refine lv_iload S.x S.b d_Mpg_conditional_169 (lv_at hl 0 rfl) ?_
            refine lv_iload S.x S.b d_Mpg_conditional_171 (lv_at hl 2 rfl) ?_
            refine px_iast S hT hw 0 14 (n := 2100) (f := (ma250 18)) (x := v252) (y := v191) rfl gp_18 (vp_in_iff.mpr (by constructor <;> omega)) d_Mpg_conditional_173 (w' := wdP cs h r g tf ta pf248 (va_up (va_up (va_up na249 23 (upd (na249 23) v252.toNatClampNeg z278)) 16 (upd ((va_up na249 23 (upd (na249 23) v252.toNatClampNeg z278)) 16) v252.toNatClampNeg (pf 11))) 17 (upd ((va_up (va_up na249 23 (upd (na249 23) v252.toNatClampNeg z278)) 16 (upd ((va_up na249 23 (upd (na249 23) v252.toNatClampNeg z278)) 16) v252.toNatClampNeg (pf 11))) 17) v252.toNatClampNeg z164)) (va_up ma250 18 (upd (ma250 18) v252.toNatClampNeg v191)) wa227 cf ca ef ea xf xa) (ps' := [wdP cs h r g tf ta pf248 (va_up (va_up (va_up na249 23 (upd (na249 23) v252.toNatClampNeg z278)) 16 (upd ((va_up na249 23 (upd (na249 23) v252.toNatClampNeg z278)) 16) v252.toNatClampNeg (pf 11))) 17 (upd ((va_up (va_up na249 23 (upd (na249 23) v252.toNatClampNeg z278)) 16 (upd ((va_up na249 23 (upd (na249 23) v252.toNatClampNeg z278)) 16) v252.toNatClampNeg (pf 11))) 17) v252.toNatClampNeg z164)) (va_up ma250 18 (upd (ma250 18) v252.toNatClampNeg v191)) wa227 cf ca ef ea xf xa]) sp_18 rfl (fun H locs hw => ?_)
            refine lv_aload_n S.x S.b d_Mpg_conditional_174 rfl (lv_at hl 6 rfl) ?_
            refine px_get S k_Mpg hT hw 0 0 19 (v := .ref (r 19)) rfl rfl rfl (by decide) m10_5 d_Mpg_conditional_175 ?_
            refine lv_iload S.x S.b d_Mpg_conditional_178 (lv_at hl 0 rfl) ?_
            refine lv_iload S.x S.b d_Mpg_conditional_180 (lv_at hl 1 rfl) ?_
            refine lv_if_ge (tgt := 192) S.x S.b d_Mpg_conditional_182 (by decide) (fun c281 => ?_) (fun c281 => ?_)
            · have nc281 : (0 : Int) ≤ v229.toInt := (i_le (x := 0) (y := v229)).mp c281
              refine lv_iload S.x S.b d_Mpg_conditional_192 (lv_at hl 1 rfl) ?_
              refine px_iast S hT hw 0 15 (n := 2100) (f := ((va_up ma250 18 (upd (ma250 18) v252.toNatClampNeg v191)) 19)) (x := v252) (y := v229) rfl gp_19 (vp_in_iff.mpr (by constructor <;> omega)) d_Mpg_conditional_194 (w' := wdP cs h r g tf ta pf248 (va_up (va_up (va_up na249 23 (upd (na249 23) v252.toNatClampNeg z278)) 16 (upd ((va_up na249 23 (upd (na249 23) v252.toNatClampNeg z278)) 16) v252.toNatClampNeg (pf 11))) 17 (upd ((va_up (va_up na249 23 (upd (na249 23) v252.toNatClampNeg z278)) 16 (upd ((va_up na249 23 (upd (na249 23) v252.toNatClampNeg z278)) 16) v252.toNatClampNeg (pf 11))) 17) v252.toNatClampNeg z164)) (va_up (va_up ma250 18 (upd (ma250 18) v252.toNatClampNeg v191)) 19 (upd ((va_up ma250 18 (upd (ma250 18) v252.toNatClampNeg v191)) 19) v252.toNatClampNeg v229)) wa227 cf ca ef ea xf xa) (ps' := [wdP cs h r g tf ta pf248 (va_up (va_up (va_up na249 23 (upd (na249 23) v252.toNatClampNeg z278)) 16 (upd ((va_up na249 23 (upd (na249 23) v252.toNatClampNeg z278)) 16) v252.toNatClampNeg (pf 11))) 17 (upd ((va_up (va_up na249 23 (upd (na249 23) v252.toNatClampNeg z278)) 16 (upd ((va_up na249 23 (upd (na249 23) v252.toNatClampNeg z278)) 16) v252.toNatClampNeg (pf 11))) 17) v252.toNatClampNeg z164)) (va_up (va_up ma250 18 (upd (ma250 18) v252.toNatClampNeg v191)) 19 (upd ((va_up ma250 18 (upd (ma250 18) v252.toNatClampNeg v191)) 19) v252.toNatClampNeg v229)) wa227 cf ca ef ea xf xa]) sp_19 rfl (fun H locs hw => ?_)
              refine lv_iload S.x S.b d_Mpg_conditional_195 (lv_at hl 0 rfl) ?_
              exact th_iret (v := v252) S hr rfl hlk hAe hw (⟨pf248, (va_up (va_up (va_up na249 23 (upd (na249 23) v252.toNatClampNeg z278)) 16 (upd ((va_up na249 23 (upd (na249 23) v252.toNatClampNeg z278)) 16) v252.toNatClampNeg (pf 11))) 17 (upd ((va_up (va_up na249 23 (upd (na249 23) v252.toNatClampNeg z278)) 16 (upd ((va_up na249 23 (upd (na249 23) v252.toNatClampNeg z278)) 16) v252.toNatClampNeg (pf 11))) 17) v252.toNatClampNeg z164)), (va_up (va_up ma250 18 (upd (ma250 18) v252.toNatClampNeg v191)) 19 (upd ((va_up ma250 18 (upd (ma250 18) v252.toNatClampNeg v191)) 19) v252.toNatClampNeg v229)), wa227, rfl, (show (pf 11).toInt + 1 ≤ (pf248 11).toInt from by first | exact oz_a94dab7bd6 e11 e255 e172 e230 e192 e212 | omega), (show (pf248 11).toInt < (tf 6).toInt from by first | exact oz_5d2fbac15b e231 e255 | omega), (show (pf 13).toInt + 1 ≤ (pf248 13).toInt from by first | exact oz_51872157b0 e13 e254 e178 e232 e194 e216 | omega), (show (pf248 13).toInt - (pf 13).toInt ≤ (pf248 11).toInt - (pf 11).toInt from by first | exact oz_e4ee09b645 e14 e254 e255 e172 e178 e233 e195 e212 e216 | omega), (show bp ta (pf 11) + 1 ≤ bp ta (pf248 11) from by first | exact oz_5a9929be88 e15 qb2611 e174 e234 e175 e196 e214 | omega), (show (pf248 12).toInt = (pf 12).toInt from by first | exact oz_9e0ebf2891 e16 e256 e176 tz244 e197 e235 e215 | omega), (show (pf248 24).toInt = (pf 24).toInt from by first | exact oz_a783471c71 e17 e257 e179 e236 e198 e217 | omega), (show (pf248 25).toInt = (pf 25).toInt from by first | exact oz_a783471c71 e18 e258 e180 e237 e199 e218 | omega), (show (pf248 26).toInt = (pf 26).toInt from by first | exact oz_a783471c71 e19 e259 e181 e238 e200 e219 | omega), (show FrB (pf 13).toInt na ma (va_up (va_up (va_up na249 23 (upd (na249 23) v252.toNatClampNeg z278)) 16 (upd ((va_up na249 23 (upd (na249 23) v252.toNatClampNeg z278)) 16) v252.toNatClampNeg (pf 11))) 17 (upd ((va_up (va_up na249 23 (upd (na249 23) v252.toNatClampNeg z278)) 16 (upd ((va_up na249 23 (upd (na249 23) v252.toNatClampNeg z278)) 16) v252.toNatClampNeg (pf 11))) 17) v252.toNatClampNeg z164)) (va_up (va_up ma250 18 (upd (ma250 18) v252.toNatClampNeg v191)) 19 (upd ((va_up ma250 18 (upd (ma250 18) v252.toNatClampNeg v191)) 19) v252.toNatClampNeg v229)) from (FrB.um (FrB.um (FrB.un (FrB.un (FrB.un hfb (by first | with_reducible rfl | with_reducible assumption | omega) (by first | with_reducible rfl | with_reducible assumption | omega)) (by first | with_reducible rfl | with_reducible assumption | omega) (by first | with_reducible rfl | with_reducible assumption | omega)) (by first | with_reducible rfl | with_reducible assumption | omega) (by first | with_reducible rfl | with_reducible assumption | omega)) (by first | with_reducible rfl | with_reducible assumption | omega) (by first | with_reducible rfl | with_reducible assumption | omega)) (by first | with_reducible rfl | with_reducible assumption | omega) (by first | with_reducible rfl | with_reducible assumption | omega))), (show FrW (pf 26).toInt wa wa227 from hfw), (show ExD ta (tf 6).toInt (va_up (va_up (va_up na249 23 (upd (na249 23) v252.toNatClampNeg z278)) 16 (upd ((va_up na249 23 (upd (na249 23) v252.toNatClampNeg z278)) 16) v252.toNatClampNeg (pf 11))) 17 (upd ((va_up (va_up na249 23 (upd (na249 23) v252.toNatClampNeg z278)) 16 (upd ((va_up na249 23 (upd (na249 23) v252.toNatClampNeg z278)) 16) v252.toNatClampNeg (pf 11))) 17) v252.toNatClampNeg z164)) (va_up (va_up ma250 18 (upd (ma250 18) v252.toNatClampNeg v191)) 19 (upd ((va_up ma250 18 (upd (ma250 18) v252.toNatClampNeg v191)) 19) v252.toNatClampNeg v229)) v252 (pf 13).toInt (pf248 13).toInt (3 * (bp ta (pf248 11) - bp ta (pf 11))) (pf 12).toInt from (exd_of (ExR.le (exr_cond (ExR.le ht_z164 (Int.le_refl _) (by first | with_reducible rfl | with_reducible assumption | omega) (Int.le_refl _) (Int.le_refl _)) (ExR.le ht_v191 (Int.le_refl _) (by first | with_reducible rfl | with_reducible assumption | omega) (Int.le_refl _) (by first | with_reducible rfl | with_reducible assumption | omega)) ht_v229 (by first | with_reducible rfl | with_reducible assumption | omega) (by first | with_reducible rfl | with_reducible assumption | omega) (fun x hx => ⟨fun j => by rw [up_far hx, up_far hx, up_far hx], fun j => by rw [up_far hx, up_far hx]⟩) (by rw [va_up_n (by decide), va_up_n (by decide), va_up_n (by decide), hnk_v252.1]; rfl) (ndt_of (by rw [va_up_n (by decide), va_up_n (by decide), va_up_n (by decide), hnk_v252.2.1]) (by first | with_reducible rfl | with_reducible assumption | omega) (by first | with_reducible rfl | with_reducible assumption | omega) (by first | with_reducible rfl | with_reducible assumption | omega)) (by rw [va_up_s, pk_us]) (by rw [va_up_n (by decide), va_up_s, pk_us]) (by rw [va_up_s, pk_us]) (by rw [dp_un (by decide), dp_un (by decide), dp_us]; refine ⟨?_, ?_, ?_⟩ <;> omega) (by rw [dp_un (by decide), dp_un (by decide), dp_us]; omega) ⟨(by rw [va_up_n (by decide), va_up_n (by decide), va_up_n (by decide), hnk_v252.2.2.1]; decide), (by rw [va_up_n (by decide), va_up_n (by decide), hnk_v252.2.2.2.2]; decide)⟩ (by first | with_reducible rfl | with_reducible assumption | omega)) (by first | with_reducible rfl | with_reducible assumption | omega) (by first | with_reducible rfl | with_reducible assumption | omega) (by first | with_reducible rfl | with_reducible assumption | omega) (Int.le_refl _)) (by first | with_reducible rfl | with_reducible assumption | omega))), (show FsI (tf 6).toInt (pf248 13).toInt (va_up (va_up (va_up na249 23 (upd (na249 23) v252.toNatClampNeg z278)) 16 (upd ((va_up na249 23 (upd (na249 23) v252.toNatClampNeg z278)) 16) v252.toNatClampNeg (pf 11))) 17 (upd ((va_up (va_up na249 23 (upd (na249 23) v252.toNatClampNeg z278)) 16 (upd ((va_up na249 23 (upd (na249 23) v252.toNatClampNeg z278)) 16) v252.toNatClampNeg (pf 11))) 17) v252.toNatClampNeg z164)) from (FsI.le (FsI.un (FsI.us (FsI.un hfs (by decide)) (by first | with_reducible rfl | with_reducible assumption | omega) (by first | with_reducible rfl | with_reducible assumption | omega)) (by decide)) (by first | with_reducible rfl | with_reducible assumption | omega)))⟩) d_Mpg_conditional_197
            · have nc281 : ¬ (0 : Int) ≤ v229.toInt := mt (i_le (x := 0) (y := v229)).mpr c281
              exfalso
              omega
        · have nc266 : ¬ (0 : Int) ≤ v229.toInt := mt (i_le (x := 0) (y := v229)).mpr c266
          refine lv_iconst (v := (-1)) S.x S.b d_Mpg_conditional_121 (by decide) ?_
          refine lv_iload S.x S.b d_Mpg_conditional_122 (lv_at hl 1 rfl) ?_
          refine lv_isub S.x S.b d_Mpg_conditional_124 ?_
          refine lv_topi (fun z282 ez282 => ?_)
          have tz282 : z282.toInt = ((-1 : Int) - v229.toInt + 2147483648) % 4294967296 - 2147483648 := by rw [ez282]; exact i_sub (-1) v229
          have lz282 := Int32.le_toInt z282
          have uz282 := Int32.toInt_lt z282
          try replace tz282 : z282.toInt = (-1 : Int) - v229.toInt := by omega
          have ht_z282 := hxd_v229.neg (z := z282) (by first | with_reducible rfl | with_reducible assumption | omega) (by first | with_reducible rfl | with_reducible assumption | omega); have hn_ht_z282 := ht_z282.num
          refine lv_goto (tgt := 130) S.x S.b d_Mpg_conditional_125 (by decide) ?_
          refine px_iald S hT hw 0 19 (n := 2100) (f := (na249 23)) rfl gp_23 (x := z282) (vp_in_iff.mpr (by first | exact oz_5aca869617 tz282 nc266 hnx_v229.2 e233 e212 e216 e231 g2 e195 g6 e14 e172 e178 | (constructor <;> omega))) d_Mpg_conditional_130 ?_
          refine lv_topi (fun z283 ez283 => ?_)
          have lz283 := Int32.le_toInt z283
          have uz283 := Int32.toInt_lt z283
          have rz283 : z283.toInt = dp na249 z282 := by rw [ez283]; rfl
          refine px_calli (pr := [wdP cs h r g tf ta pf248 na249 ma250 wa227 cf ca ef ea xf xa]) (px_runS (As := [.int z265, .int z283]) (rest := [.int z264, .int 1, .int v252, .ref (r 23)]) S (c_mp_deeper l D cs  z265 z283   _) hT (pr := [wdP cs h r g tf ta pf248 na249 ma250 wa227 cf ca ef ea xf xa]) (pcs := []) hw px_X.tt m12_49 m12_47 m12_48 m1_21 q_Mpg_deeper ⟨show 0 + 1 ≤ (8 * lv + 19) from by first | with_reducible rfl | with_reducible assumption | omega, show 8 + (2 + 11) + 0 ≤ (220 * lv + 690) from by first | with_reducible rfl | with_reducible assumption | omega⟩ hl.1 rfl (Nat.le_of_ble_eq_true rfl) d_Mpg_conditional_131 ⟨Nat.le_of_ble_eq_true rfl, Nat.le_of_ble_eq_true rfl⟩) hw hA (fun v285 p284 H locs hp284 hw => ?_)
          obtain ⟨rfl, e286, e287, e288⟩ := hp284
          have e286 : z265.toInt ≤ v285.toInt := e286
          have e287 : z283.toInt ≤ v285.toInt := e287
          have e288 : v285.toInt = z265.toInt ∨ v285.toInt = z283.toInt := e288
          have hw : pw D A s.heap H locs [wdP cs h r g tf ta pf248 na249 ma250 wa227 cf ca ef ea xf xa] := hw
          have lv285 := Int32.le_toInt v285
          have uv285 := Int32.toInt_lt v285
          refine px_calli (pr := [wdP cs h r g tf ta pf248 na249 ma250 wa227 cf ca ef ea xf xa]) (px_runS (As := [.int z264, .int v285]) (rest := [.int 1, .int v252, .ref (r 23)]) S (c_mp_deeper l D cs  z264 v285   _) hT (pr := [wdP cs h r g tf ta pf248 na249 ma250 wa227 cf ca ef ea xf xa]) (pcs := []) hw px_X.tt m12_49 m12_47 m12_48 m1_21 q_Mpg_deeper ⟨show 0 + 1 ≤ (8 * lv + 19) from by first | with_reducible rfl | with_reducible assumption | omega, show 8 + (2 + 11) + 0 ≤ (220 * lv + 690) from by first | with_reducible rfl | with_reducible assumption | omega⟩ hl.1 rfl (Nat.le_of_ble_eq_true rfl) d_Mpg_conditional_134 ⟨Nat.le_of_ble_eq_true rfl, Nat.le_of_ble_eq_true rfl⟩) hw hA (fun v290 p289 H locs hp289 hw => ?_)
          obtain ⟨rfl, e291, e292, e293⟩ := hp289
          have e291 : z264.toInt ≤ v290.toInt := e291
          have e292 : v285.toInt ≤ v290.toInt := e292
          have e293 : v290.toInt = z264.toInt ∨ v290.toInt = v285.toInt := e293
          have hw : pw D A s.heap H locs [wdP cs h r g tf ta pf248 na249 ma250 wa227 cf ca ef ea xf xa] := hw
          have lv290 := Int32.le_toInt v290
          have uv290 := Int32.toInt_lt v290
          refine lv_iadd S.x S.b d_Mpg_conditional_137 ?_
          refine lv_topi (fun z294 ez294 => ?_)
          have tz294 : z294.toInt = ((1 : Int) + v290.toInt + 2147483648) % 4294967296 - 2147483648 := by rw [ez294]; exact i_add 1 v290
          have lz294 := Int32.le_toInt z294
          have uz294 := Int32.toInt_lt z294
          try replace tz294 : z294.toInt = (1 : Int) + v290.toInt := by omega
          refine px_iast S hT hw 0 19 (n := 2100) (f := (na249 23)) (x := v252) (y := z294) rfl gp_23 (vp_in_iff.mpr (by constructor <;> omega)) d_Mpg_conditional_138 (w' := wdP cs h r g tf ta pf248 (va_up na249 23 (upd (na249 23) v252.toNatClampNeg z294)) ma250 wa227 cf ca ef ea xf xa) (ps' := [wdP cs h r g tf ta pf248 (va_up na249 23 (upd (na249 23) v252.toNatClampNeg z294)) ma250 wa227 cf ca ef ea xf xa]) sp_23 rfl (fun H locs hw => ?_)
          refine lv_aload_n S.x S.b d_Mpg_conditional_139 rfl (lv_at hl 6 rfl) ?_
          refine px_get S k_Mpg hT hw 0 0 16 (v := .ref (r 16)) rfl rfl rfl (by decide) m10_0 d_Mpg_conditional_140 ?_
          refine lv_iload S.x S.b d_Mpg_conditional_143 (lv_at hl 0 rfl) ?_
          refine lv_iload_n S.x S.b d_Mpg_conditional_145 rfl (lv_at hl 5 rfl) ?_
          refine px_iast S hT hw 0 12 (n := 2100) (f := ((va_up na249 23 (upd (na249 23) v252.toNatClampNeg z294)) 16)) (x := v252) (y := (pf 11)) rfl gp_16 (vp_in_iff.mpr (by constructor <;> omega)) d_Mpg_conditional_146 (w' := wdP cs h r g tf ta pf248 (va_up (va_up na249 23 (upd (na249 23) v252.toNatClampNeg z294)) 16 (upd ((va_up na249 23 (upd (na249 23) v252.toNatClampNeg z294)) 16) v252.toNatClampNeg (pf 11))) ma250 wa227 cf ca ef ea xf xa) (ps' := [wdP cs h r g tf ta pf248 (va_up (va_up na249 23 (upd (na249 23) v252.toNatClampNeg z294)) 16 (upd ((va_up na249 23 (upd (na249 23) v252.toNatClampNeg z294)) 16) v252.toNatClampNeg (pf 11))) ma250 wa227 cf ca ef ea xf xa]) sp_16 rfl (fun H locs hw => ?_)
          refine lv_aload_n S.x S.b d_Mpg_conditional_147 rfl (lv_at hl 6 rfl) ?_
          refine px_get S k_Mpg hT hw 0 0 17 (v := .ref (r 17)) rfl rfl rfl (by decide) m10_1 d_Mpg_conditional_148 ?_
          refine lv_iload S.x S.b d_Mpg_conditional_151 (lv_at hl 0 rfl) ?_
          refine lv_iload_n S.x S.b d_Mpg_conditional_153 rfl (lv_at hl 4 rfl) ?_
          refine lv_if_ge (tgt := 163) S.x S.b d_Mpg_conditional_154 (by decide) (fun c295 => ?_) (fun c295 => ?_)
          · have nc295 : (0 : Int) ≤ v10.toInt := (i_le (x := 0) (y := v10)).mp c295
            exfalso
            omega
          · have nc295 : ¬ (0 : Int) ≤ v10.toInt := mt (i_le (x := 0) (y := v10)).mpr c295
            refine lv_iconst (v := (-1)) S.x S.b d_Mpg_conditional_157 (by decide) ?_
            refine lv_iload_n S.x S.b d_Mpg_conditional_158 rfl (lv_at hl 4 rfl) ?_
            refine lv_isub S.x S.b d_Mpg_conditional_159 ?_
            refine lv_topi (fun z296 ez296 => ?_)
            have tz296 : z296.toInt = ((-1 : Int) - v10.toInt + 2147483648) % 4294967296 - 2147483648 := by rw [ez296]; exact i_sub (-1) v10
            have lz296 := Int32.le_toInt z296
            have uz296 := Int32.toInt_lt z296
            try replace tz296 : z296.toInt = (-1 : Int) - v10.toInt := by omega
            have hsz296 : z164 = z296 := i_eq.mpr (by first | with_reducible rfl | with_reducible assumption | omega); subst hsz296
            refine lv_goto (tgt := 164) S.x S.b d_Mpg_conditional_160 (by decide) ?_
            refine px_iast S hT hw 0 13 (n := 2100) (f := ((va_up (va_up na249 23 (upd (na249 23) v252.toNatClampNeg z294)) 16 (upd ((va_up na249 23 (upd (na249 23) v252.toNatClampNeg z294)) 16) v252.toNatClampNeg (pf 11))) 17)) (x := v252) (y := z164) rfl gp_17 (vp_in_iff.mpr (by constructor <;> omega)) d_Mpg_conditional_164 (w' := wdP cs h r g tf ta pf248 (va_up (va_up (va_up na249 23 (upd (na249 23) v252.toNatClampNeg z294)) 16 (upd ((va_up na249 23 (upd (na249 23) v252.toNatClampNeg z294)) 16) v252.toNatClampNeg (pf 11))) 17 (upd ((va_up (va_up na249 23 (upd (na249 23) v252.toNatClampNeg z294)) 16 (upd ((va_up na249 23 (upd (na249 23) v252.toNatClampNeg z294)) 16) v252.toNatClampNeg (pf 11))) 17) v252.toNatClampNeg z164)) ma250 wa227 cf ca ef ea xf xa) (ps' := [wdP cs h r g tf ta pf248 (va_up (va_up (va_up na249 23 (upd (na249 23) v252.toNatClampNeg z294)) 16 (upd ((va_up na249 23 (upd (na249 23) v252.toNatClampNeg z294)) 16) v252.toNatClampNeg (pf 11))) 17 (upd ((va_up (va_up na249 23 (upd (na249 23) v252.toNatClampNeg z294)) 16 (upd ((va_up na249 23 (upd (na249 23) v252.toNatClampNeg z294)) 16) v252.toNatClampNeg (pf 11))) 17) v252.toNatClampNeg z164)) ma250 wa227 cf ca ef ea xf xa]) sp_17 rfl (fun H locs hw => ?_)
            refine lv_aload_n S.x S.b d_Mpg_conditional_165 rfl (lv_at hl 6 rfl) ?_
            refine px_get S k_Mpg hT hw 0 0 18 (v := .ref (r 18)) rfl rfl rfl (by decide) m10_3 d_Mpg_conditional_166 ?_
            refine lv_iload S.x S.b d_Mpg_conditional_169 (lv_at hl 0 rfl) ?_
            refine lv_iload S.x S.b d_Mpg_conditional_171 (lv_at hl 2 rfl) ?_
            refine px_iast S hT hw 0 14 (n := 2100) (f := (ma250 18)) (x := v252) (y := v191) rfl gp_18 (vp_in_iff.mpr (by constructor <;> omega)) d_Mpg_conditional_173 (w' := wdP cs h r g tf ta pf248 (va_up (va_up (va_up na249 23 (upd (na249 23) v252.toNatClampNeg z294)) 16 (upd ((va_up na249 23 (upd (na249 23) v252.toNatClampNeg z294)) 16) v252.toNatClampNeg (pf 11))) 17 (upd ((va_up (va_up na249 23 (upd (na249 23) v252.toNatClampNeg z294)) 16 (upd ((va_up na249 23 (upd (na249 23) v252.toNatClampNeg z294)) 16) v252.toNatClampNeg (pf 11))) 17) v252.toNatClampNeg z164)) (va_up ma250 18 (upd (ma250 18) v252.toNatClampNeg v191)) wa227 cf ca ef ea xf xa) (ps' := [wdP cs h r g tf ta pf248 (va_up (va_up (va_up na249 23 (upd (na249 23) v252.toNatClampNeg z294)) 16 (upd ((va_up na249 23 (upd (na249 23) v252.toNatClampNeg z294)) 16) v252.toNatClampNeg (pf 11))) 17 (upd ((va_up (va_up na249 23 (upd (na249 23) v252.toNatClampNeg z294)) 16 (upd ((va_up na249 23 (upd (na249 23) v252.toNatClampNeg z294)) 16) v252.toNatClampNeg (pf 11))) 17) v252.toNatClampNeg z164)) (va_up ma250 18 (upd (ma250 18) v252.toNatClampNeg v191)) wa227 cf ca ef ea xf xa]) sp_18 rfl (fun H locs hw => ?_)
            refine lv_aload_n S.x S.b d_Mpg_conditional_174 rfl (lv_at hl 6 rfl) ?_
            refine px_get S k_Mpg hT hw 0 0 19 (v := .ref (r 19)) rfl rfl rfl (by decide) m10_5 d_Mpg_conditional_175 ?_
            refine lv_iload S.x S.b d_Mpg_conditional_178 (lv_at hl 0 rfl) ?_
            refine lv_iload S.x S.b d_Mpg_conditional_180 (lv_at hl 1 rfl) ?_
            refine lv_if_ge (tgt := 192) S.x S.b d_Mpg_conditional_182 (by decide) (fun c297 => ?_) (fun c297 => ?_)
            · have nc297 : (0 : Int) ≤ v229.toInt := (i_le (x := 0) (y := v229)).mp c297
              exfalso
              omega
            · have nc297 : ¬ (0 : Int) ≤ v229.toInt := mt (i_le (x := 0) (y := v229)).mpr c297
              refine lv_iconst (v := (-1)) S.x S.b d_Mpg_conditional_185 (by decide) ?_
              refine lv_iload S.x S.b d_Mpg_conditional_186 (lv_at hl 1 rfl) ?_
              refine lv_isub S.x S.b d_Mpg_conditional_188 ?_
              refine lv_topi (fun z298 ez298 => ?_)
              have tz298 : z298.toInt = ((-1 : Int) - v229.toInt + 2147483648) % 4294967296 - 2147483648 := by rw [ez298]; exact i_sub (-1) v229
              have lz298 := Int32.le_toInt z298
              have uz298 := Int32.toInt_lt z298
              try replace tz298 : z298.toInt = (-1 : Int) - v229.toInt := by omega
              have hsz298 : z282 = z298 := i_eq.mpr (by first | with_reducible rfl | with_reducible assumption | omega); subst hsz298
              refine lv_goto (tgt := 194) S.x S.b d_Mpg_conditional_189 (by decide) ?_
              refine px_iast S hT hw 0 15 (n := 2100) (f := ((va_up ma250 18 (upd (ma250 18) v252.toNatClampNeg v191)) 19)) (x := v252) (y := z282) rfl gp_19 (vp_in_iff.mpr (by constructor <;> omega)) d_Mpg_conditional_194 (w' := wdP cs h r g tf ta pf248 (va_up (va_up (va_up na249 23 (upd (na249 23) v252.toNatClampNeg z294)) 16 (upd ((va_up na249 23 (upd (na249 23) v252.toNatClampNeg z294)) 16) v252.toNatClampNeg (pf 11))) 17 (upd ((va_up (va_up na249 23 (upd (na249 23) v252.toNatClampNeg z294)) 16 (upd ((va_up na249 23 (upd (na249 23) v252.toNatClampNeg z294)) 16) v252.toNatClampNeg (pf 11))) 17) v252.toNatClampNeg z164)) (va_up (va_up ma250 18 (upd (ma250 18) v252.toNatClampNeg v191)) 19 (upd ((va_up ma250 18 (upd (ma250 18) v252.toNatClampNeg v191)) 19) v252.toNatClampNeg z282)) wa227 cf ca ef ea xf xa) (ps' := [wdP cs h r g tf ta pf248 (va_up (va_up (va_up na249 23 (upd (na249 23) v252.toNatClampNeg z294)) 16 (upd ((va_up na249 23 (upd (na249 23) v252.toNatClampNeg z294)) 16) v252.toNatClampNeg (pf 11))) 17 (upd ((va_up (va_up na249 23 (upd (na249 23) v252.toNatClampNeg z294)) 16 (upd ((va_up na249 23 (upd (na249 23) v252.toNatClampNeg z294)) 16) v252.toNatClampNeg (pf 11))) 17) v252.toNatClampNeg z164)) (va_up (va_up ma250 18 (upd (ma250 18) v252.toNatClampNeg v191)) 19 (upd ((va_up ma250 18 (upd (ma250 18) v252.toNatClampNeg v191)) 19) v252.toNatClampNeg z282)) wa227 cf ca ef ea xf xa]) sp_19 rfl (fun H locs hw => ?_)
              refine lv_iload S.x S.b d_Mpg_conditional_195 (lv_at hl 0 rfl) ?_
              exact th_iret (v := v252) S hr rfl hlk hAe hw (⟨pf248, (va_up (va_up (va_up na249 23 (upd (na249 23) v252.toNatClampNeg z294)) 16 (upd ((va_up na249 23 (upd (na249 23) v252.toNatClampNeg z294)) 16) v252.toNatClampNeg (pf 11))) 17 (upd ((va_up (va_up na249 23 (upd (na249 23) v252.toNatClampNeg z294)) 16 (upd ((va_up na249 23 (upd (na249 23) v252.toNatClampNeg z294)) 16) v252.toNatClampNeg (pf 11))) 17) v252.toNatClampNeg z164)), (va_up (va_up ma250 18 (upd (ma250 18) v252.toNatClampNeg v191)) 19 (upd ((va_up ma250 18 (upd (ma250 18) v252.toNatClampNeg v191)) 19) v252.toNatClampNeg z282)), wa227, rfl, (show (pf 11).toInt + 1 ≤ (pf248 11).toInt from by first | exact oz_a94dab7bd6 e11 e255 e172 e230 e192 e212 | omega), (show (pf248 11).toInt < (tf 6).toInt from by first | exact oz_5d2fbac15b e231 e255 | omega), (show (pf 13).toInt + 1 ≤ (pf248 13).toInt from by first | exact oz_51872157b0 e13 e254 e178 e232 e194 e216 | omega), (show (pf248 13).toInt - (pf 13).toInt ≤ (pf248 11).toInt - (pf 11).toInt from by first | exact oz_e4ee09b645 e14 e254 e255 e172 e178 e233 e195 e212 e216 | omega), (show bp ta (pf 11) + 1 ≤ bp ta (pf248 11) from by first | exact oz_5a9929be88 e15 qb2611 e174 e234 e175 e196 e214 | omega), (show (pf248 12).toInt = (pf 12).toInt from by first | exact oz_9e0ebf2891 e16 e256 e176 tz244 e197 e235 e215 | omega), (show (pf248 24).toInt = (pf 24).toInt from by first | exact oz_a783471c71 e17 e257 e179 e236 e198 e217 | omega), (show (pf248 25).toInt = (pf 25).toInt from by first | exact oz_a783471c71 e18 e258 e180 e237 e199 e218 | omega), (show (pf248 26).toInt = (pf 26).toInt from by first | exact oz_a783471c71 e19 e259 e181 e238 e200 e219 | omega), (show FrB (pf 13).toInt na ma (va_up (va_up (va_up na249 23 (upd (na249 23) v252.toNatClampNeg z294)) 16 (upd ((va_up na249 23 (upd (na249 23) v252.toNatClampNeg z294)) 16) v252.toNatClampNeg (pf 11))) 17 (upd ((va_up (va_up na249 23 (upd (na249 23) v252.toNatClampNeg z294)) 16 (upd ((va_up na249 23 (upd (na249 23) v252.toNatClampNeg z294)) 16) v252.toNatClampNeg (pf 11))) 17) v252.toNatClampNeg z164)) (va_up (va_up ma250 18 (upd (ma250 18) v252.toNatClampNeg v191)) 19 (upd ((va_up ma250 18 (upd (ma250 18) v252.toNatClampNeg v191)) 19) v252.toNatClampNeg z282)) from (FrB.um (FrB.um (FrB.un (FrB.un (FrB.un hfb (by first | with_reducible rfl | with_reducible assumption | omega) (by first | with_reducible rfl | with_reducible assumption | omega)) (by first | with_reducible rfl | with_reducible assumption | omega) (by first | with_reducible rfl | with_reducible assumption | omega)) (by first | with_reducible rfl | with_reducible assumption | omega) (by first | with_reducible rfl | with_reducible assumption | omega)) (by first | with_reducible rfl | with_reducible assumption | omega) (by first | with_reducible rfl | with_reducible assumption | omega)) (by first | with_reducible rfl | with_reducible assumption | omega) (by first | with_reducible rfl | with_reducible assumption | omega))), (show FrW (pf 26).toInt wa wa227 from hfw), (show ExD ta (tf 6).toInt (va_up (va_up (va_up na249 23 (upd (na249 23) v252.toNatClampNeg z294)) 16 (upd ((va_up na249 23 (upd (na249 23) v252.toNatClampNeg z294)) 16) v252.toNatClampNeg (pf 11))) 17 (upd ((va_up (va_up na249 23 (upd (na249 23) v252.toNatClampNeg z294)) 16 (upd ((va_up na249 23 (upd (na249 23) v252.toNatClampNeg z294)) 16) v252.toNatClampNeg (pf 11))) 17) v252.toNatClampNeg z164)) (va_up (va_up ma250 18 (upd (ma250 18) v252.toNatClampNeg v191)) 19 (upd ((va_up ma250 18 (upd (ma250 18) v252.toNatClampNeg v191)) 19) v252.toNatClampNeg z282)) v252 (pf 13).toInt (pf248 13).toInt (3 * (bp ta (pf248 11) - bp ta (pf 11))) (pf 12).toInt from (exd_of (ExR.le (exr_cond (ExR.le ht_z164 (Int.le_refl _) (by first | with_reducible rfl | with_reducible assumption | omega) (Int.le_refl _) (Int.le_refl _)) (ExR.le ht_v191 (Int.le_refl _) (by first | with_reducible rfl | with_reducible assumption | omega) (Int.le_refl _) (by first | with_reducible rfl | with_reducible assumption | omega)) ht_z282 (by first | with_reducible rfl | with_reducible assumption | omega) (by first | with_reducible rfl | with_reducible assumption | omega) (fun x hx => ⟨fun j => by rw [up_far hx, up_far hx, up_far hx], fun j => by rw [up_far hx, up_far hx]⟩) (by rw [va_up_n (by decide), va_up_n (by decide), va_up_n (by decide), hnk_v252.1]; rfl) (ndt_of (by rw [va_up_n (by decide), va_up_n (by decide), va_up_n (by decide), hnk_v252.2.1]) (by first | with_reducible rfl | with_reducible assumption | omega) (by first | with_reducible rfl | with_reducible assumption | omega) (by first | with_reducible rfl | with_reducible assumption | omega)) (by rw [va_up_s, pk_us]) (by rw [va_up_n (by decide), va_up_s, pk_us]) (by rw [va_up_s, pk_us]) (by rw [dp_un (by decide), dp_un (by decide), dp_us]; refine ⟨?_, ?_, ?_⟩ <;> omega) (by rw [dp_un (by decide), dp_un (by decide), dp_us]; omega) ⟨(by rw [va_up_n (by decide), va_up_n (by decide), va_up_n (by decide), hnk_v252.2.2.1]; decide), (by rw [va_up_n (by decide), va_up_n (by decide), hnk_v252.2.2.2.2]; decide)⟩ (by first | with_reducible rfl | with_reducible assumption | omega)) (by first | with_reducible rfl | with_reducible assumption | omega) (by first | with_reducible rfl | with_reducible assumption | omega) (by first | with_reducible rfl | with_reducible assumption | omega) (Int.le_refl _)) (by first | with_reducible rfl | with_reducible assumption | omega))), (show FsI (tf 6).toInt (pf248 13).toInt (va_up (va_up (va_up na249 23 (upd (na249 23) v252.toNatClampNeg z294)) 16 (upd ((va_up na249 23 (upd (na249 23) v252.toNatClampNeg z294)) 16) v252.toNatClampNeg (pf 11))) 17 (upd ((va_up (va_up na249 23 (upd (na249 23) v252.toNatClampNeg z294)) 16 (upd ((va_up na249 23 (upd (na249 23) v252.toNatClampNeg z294)) 16) v252.toNatClampNeg (pf 11))) 17) v252.toNatClampNeg z164)) from (FsI.le (FsI.un (FsI.us (FsI.un hfs (by decide)) (by first | with_reducible rfl | with_reducible assumption | omega) (by first | with_reducible rfl | with_reducible assumption | omega)) (by decide)) (by first | with_reducible rfl | with_reducible assumption | omega)))⟩) d_Mpg_conditional_197
  · have nc31 : v28.toInt = (0 : Int) := (i_eq (x := v28) (y := 0)).mp c31
    refine lv_iload_n S.x S.b d_Mpg_conditional_19 rfl (lv_at hl 0 rfl) ?_
    exact th_iret (v := v10) S hr rfl hlk hAe hw (⟨pf5, na6, ma7, wa8, rfl, (show (pf 11).toInt + 1 ≤ (pf5 11).toInt from by first | exact e11 | omega), (show (pf5 11).toInt < (tf 6).toInt from by first | exact e12 | omega), (show (pf 13).toInt + 1 ≤ (pf5 13).toInt from by first | exact e13 | omega), (show (pf5 13).toInt - (pf 13).toInt ≤ (pf5 11).toInt - (pf 11).toInt from by first | exact e14 | omega), (show bp ta (pf 11) + 1 ≤ bp ta (pf5 11) from by first | exact e15 | omega), (show (pf5 12).toInt = (pf 12).toInt from by first | exact e16 | omega), (show (pf5 24).toInt = (pf 24).toInt from by first | exact e17 | omega), (show (pf5 25).toInt = (pf 25).toInt from by first | exact e18 | omega), (show (pf5 26).toInt = (pf 26).toInt from by first | exact e19 | omega), (show FrB (pf 13).toInt na ma na6 ma7 from hfb), (show FrW (pf 26).toInt wa wa8 from hfw), (show ExD ta (tf 6).toInt na6 ma7 v10 (pf 13).toInt (pf5 13).toInt (3 * (bp ta (pf5 11) - bp ta (pf 11))) (pf 12).toInt from (ExD.le hxd_v10 (by first | with_reducible rfl | with_reducible assumption | omega) (by first | with_reducible rfl | with_reducible assumption | omega) (by first | with_reducible rfl | with_reducible assumption | omega) (by first | with_reducible rfl | with_reducible assumption | omega))), (show FsI (tf 6).toInt (pf5 13).toInt na6 from (FsI.le hfs (by first | with_reducible rfl | with_reducible assumption | omega)))⟩) d_Mpg_conditional_20
