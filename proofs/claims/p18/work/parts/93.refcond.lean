theorem oz_94f3ba2d66 {n0 : Nat}  : (8 * n0 + 18) + 1 ≤ (8 * n0 + 19) := by omega
theorem oz_c96e348a6b {n0 : Nat}  : 8 + (5 + 11) + (220 * n0 + 660) ≤ (220 * n0 + 690) := by omega
theorem oz_d04c090395 {n0 : Nat}  : 3 + 1 ≤ (8 * n0 + 19) := by omega
theorem oz_2a4df03d6c {n0 : Nat}  : 8 + (2 + 11) + 120 ≤ (220 * n0 + 690) := by omega
theorem oz_be39d08caa {a0 a1 a2 a3 a4 a5 : Int} (h0 : a0 < (a1)) (h1 : a1 - a2 ≤ a3 - a4) (h2 : a2 ≤ a4 + 20) (h3 : a3 < a5) (h4 : a5 ≤ 2049) : a0 < 2100 := by omega
theorem oz_b5487fe559 {n0 : Nat}  : 7 + 1 ≤ (8 * n0 + 19) := by omega
theorem oz_de4190bbcc {n0 : Nat}  : 8 + (2 + 11) + 150 ≤ (220 * n0 + 690) := by omega
theorem oz_7fadf8ac0b {n0 : Nat}  : 8 + (1 + 11) + 150 ≤ (220 * n0 + 690) := by omega
theorem oz_bd8959faaf {a0 a1 a2 : Int} (h0 : a0 = a1) (h1 : a2 < (a1)) (h2 : -1 - (a1) < a2) : 0 ≤ a0 := by omega
theorem oz_815a17a6fa {a0 a1 a2 a3 a4 a5 : Int} (h0 : a1 = a2 + 1) (h1 : a0 = a3) (h2 : a3 - a4 ≤ a2 - a5) (h3 : a4 ≤ a5 + 20) : a0 ≤ a1 + 20 := by omega
theorem oz_3bd8703fc7 {n0 : Nat}  : 8 + (2 + 11) + 230 ≤ (220 * n0 + 690) := by omega
theorem oz_954c9acc8e {a0 a1 a2 a3 a4 : Int} (h0 : a0 = a1 + 1) (h1 : a2 + 1 ≤ a1) (h2 : 0 ≤ a3) (h3 : a3 + 1 ≤ a4) (h4 : a2 = a4 + 1) : 0 ≤ a0 := by omega
theorem oz_cffcf29412 {a0 a1 a2 a3 a4 a5 : Int} (h0 : a0 = a1) (h1 : a1 = a2) (h2 : a2 = a3 + 1) (h3 : a3 = a4) (h4 : a5 ≤ a4) (h5 : 0 ≤ a5) : 0 ≤ a0 := by omega
theorem oz_51eeb0c7ba {a0 a1 a2 a3 : Int} (h0 : a0 = a1) (h1 : a1 = a2) (h2 : a2 = a3 + 1) (h3 : a3 < 60) : a0 ≤ 60 := by omega
theorem oz_e8098791ea {a0 a1 a2 a3 a4 : Int} (h0 : a0 = a1) (h1 : a2 + 1 ≤ a1) (h2 : a2 = a3) (h3 : a4 < (a3)) (h4 : -1 - (a3) < a4) : 0 ≤ a0 := by omega
theorem oz_301eea1e0b {a0 a1 a2 a3 a4 a5 a6 a7 a8 a9 : Int} (h0 : a1 = a2 + 1) (h1 : a0 = a3) (h2 : a3 - a4 ≤ a2 - a5) (h3 : a6 ≤ a7 + 20) (h4 : a8 - a6 ≤ a9 - a7) (h5 : a5 = a9 + 1) (h6 : a4 = a8) : a0 ≤ a1 + 20 := by omega
theorem oz_00b9fbaef4 {a0 a1 a2 a3 a4 : Int} (h0 : a0 = a1) (h1 : a1 = a2) (h2 : a2 = a3) (h3 : a3 = a4) (h4 : 0 ≤ a4) : 0 ≤ a0 := by omega
theorem oz_3357ca9d54 {a0 a1 a2 a3 a4 a5 a6 a7 a8 a9 : Int} (h0 : a1 = a2) (h1 : a0 = a3) (h2 : a2 = a4) (h3 : a3 = a5) (h4 : a4 = a6 + 1) (h5 : a5 = a7) (h6 : a6 = a8) (h7 : a7 = a9) (h8 : a9 ≤ a8) : a0 ≤ a1 := by omega
theorem oz_54eba00cf9 {a0 a1 : Int} (h0 : a1 < (a0)) (h1 : -1 - (a0) < a1) : 0 ≤ a0 := by omega
theorem oz_4f78757f1c {a0 a1 a2 a3 a4 a5 a6 a7 a8 a9 a10 a11 a12 : Int} (h0 : a0 - a1 ≤ a2 - a3) (h1 : a3 = a4 + 1) (h2 : a1 = a5) (h3 : a2 < a6) (h4 : a6 ≤ 2049) (h5 : a5 - a7 ≤ a4 - a8) (h6 : a9 ≤ a10 + 20) (h7 : a11 - a9 ≤ a12 - a10) (h8 : a8 = a12 + 1) (h9 : a7 = a11) : a0 < 2100 := by omega
theorem oz_11aebc2b0b {n0 : Nat}  : 0 + 1 ≤ (8 * n0 + 19) := by omega
theorem oz_88ea401393 {n0 : Nat}  : 8 + (3 + 11) + 0 ≤ (220 * n0 + 690) := by omega
theorem oz_0c88cfaf88 {a0 a1 a2 a3 a4 a5 a6 a7 a8 : Int} (h0 : (0 : Int) ≤ a0) (h1 : a0 < (a1)) (h2 : a1 - a2 ≤ a3 - a4) (h3 : a2 ≤ a4 + 20) (h4 : a5 = a3 + 1) (h5 : a6 ≤ 2049) (h6 : a5 + 1 ≤ a7) (h7 : a8 = a7 + 1) (h8 : a8 < a6) : 0 ≤ a0 ∧ a0 < ((2100 : Nat) : Int) := by omega
theorem oz_5801cd9f67 {a0 a1 a2 a3 a4 a5 a6 a7 a8 a9 a10 a11 a12 a13 : Int} (h0 : (0 : Int) ≤ a0) (h1 : a0 < (a1)) (h2 : a1 - a2 ≤ a3 - a4) (h3 : a4 = a5 + 1) (h4 : a2 = a6) (h5 : a3 < a7) (h6 : a7 ≤ 2049) (h7 : a6 - a8 ≤ a5 - a9) (h8 : a10 ≤ a11 + 20) (h9 : a12 - a10 ≤ a13 - a11) (h10 : a9 = a13 + 1) (h11 : a8 = a12) : 0 ≤ a0 ∧ a0 < ((2100 : Nat) : Int) := by omega
theorem oz_a5526f1e7e {n0 : Nat}  : 8 + (2 + 11) + 0 ≤ (220 * n0 + 690) := by omega
theorem oz_a94dab7bd6 {a0 a1 a2 a3 a4 a5 a6 : Int} (h0 : a0 + 1 ≤ a2) (h1 : a1 = a3) (h2 : a4 = a2 + 1) (h3 : a5 + 1 ≤ a3) (h4 : a4 + 1 ≤ a6) (h5 : a5 = a6 + 1) : a0 + 1 ≤ a1 := by omega
theorem oz_51872157b0 {a0 a1 a2 a3 a4 a5 a6 : Int} (h0 : a0 + 1 ≤ a2) (h1 : a1 = a3 + 1) (h2 : a4 = a2) (h3 : a5 + 1 ≤ a3) (h4 : a4 + 1 ≤ a6) (h5 : a5 = a6) : a0 + 1 ≤ a1 := by omega
theorem oz_e4ee09b645 {a0 a1 a2 a3 a4 a5 a6 a7 a8 a9 a10 a11 a12 a13 : Int} (h0 : a4 - a1 ≤ a5 - a3) (h1 : a0 = a6 + 1) (h2 : a2 = a7) (h3 : a8 = a5 + 1) (h4 : a9 = a4) (h5 : a6 - a10 ≤ a7 - a11) (h6 : a12 - a9 ≤ a13 - a8) (h7 : a11 = a13 + 1) (h8 : a10 = a12) : a0 - a1 ≤ a2 - a3 := by omega
theorem oz_5a9929be88 {a0 a1 a2 a3 a4 a5 a6 a7 : Int} (h0 : a0 + 1 ≤ a2) (h1 : a1 = a3) (h2 : a2 + a4 ≤ a5) (h3 : a6 + 1 ≤ a3) (h4 : 1 ≤ a4) (h5 : a5 + 1 ≤ a7) (h6 : a7 + 1 ≤ a6) : a0 + 1 ≤ a1 := by omega
theorem oz_9e0ebf2891 {a0 a1 a2 a3 a4 a5 a6 a7 : Int} (h0 : a2 = a1) (h1 : a0 = a3) (h2 : a4 = a2 + 1) (h3 : a3 = a5 - (1 : Int)) (h4 : a6 = a4) (h5 : a5 = a7) (h6 : a7 = a6) : a0 = a1 := by omega
theorem oz_5aca869617 {a0 a1 a2 a3 a4 a5 a6 a7 a8 a9 a10 a11 a12 a13 a14 : Int} (h0 : a0 = (-1 : Int) - a1) (h1 : ¬ (0 : Int) ≤ a1) (h2 : -1 - (a2) < a1) (h3 : a2 - a3 ≤ a4 - a5) (h4 : a5 = a6 + 1) (h5 : a3 = a7) (h6 : a4 < a8) (h7 : a8 ≤ 2049) (h8 : a7 - a9 ≤ a6 - a10) (h9 : a11 ≤ a12 + 20) (h10 : a13 - a11 ≤ a14 - a12) (h11 : a10 = a14 + 1) (h12 : a9 = a13) : 0 ≤ a0 ∧ a0 < ((2100 : Nat) : Int) := by omega
theorem oz_26151178c9 {a0 a1 : Int} (h0 : a0 = (-1 : Int) - a1) (h1 : ¬ (0 : Int) ≤ a1) : 0 ≤ a0 := by omega
theorem oz_96c024f2ca {a0 a1 a2 a3 a4 a5 a6 : Int} (h0 : a0 = (-1 : Int) - a1) (h1 : -1 - (a2) < a1) (h2 : a2 - a3 ≤ a4 - a5) (h3 : a3 ≤ a5 + 20) (h4 : a4 < a6) (h5 : a6 ≤ 2049) : a0 < 2100 := by omega
theorem oz_25605124ac {a0 a1 a2 a3 a4 a5 a6 a7 a8 a9 a10 : Int} (h0 : a0 = (-1 : Int) - a1) (h1 : ¬ (0 : Int) ≤ a1) (h2 : -1 - (a2) < a1) (h3 : a2 - a3 ≤ a4 - a5) (h4 : a3 ≤ a5 + 20) (h5 : a6 = a4 + 1) (h6 : a7 ≤ 2049) (h7 : a6 + 1 ≤ a8) (h8 : a9 = a8 + 1) (h9 : a10 < a7) (h10 : a9 + 1 ≤ a10) : 0 ≤ a0 ∧ a0 < ((2100 : Nat) : Int) := by omega
theorem m12_15 : Cond.methodLink "HomeSystemModel$Program" 412 ⟨"HomeSystemModel$Program", "binary", "()I"⟩ ∈ AL := AL_12 (List.mem_of_getElem? (i := 15) rfl) rfl
theorem m12_18 : Cond.code ⟨"HomeSystemModel$Program", "binary", "()I"⟩ prog_16_method_37_code 5 (Option.some FieldType.int) ∈ AL := AL_12 (List.mem_of_getElem? (i := 18) rfl) rfl
theorem ms_9_6 : Cond.selects "HomeSystemModel$Program" ⟨"HomeSystemModel$Program", "binary", "()I"⟩ ⟨"HomeSystemModel$Program", "binary", "()I"⟩ ∈ AL := AL_p (q := (⟨"HomeSystemModel$Program", "binary", "()I"⟩, 69)) (by unfold lw_privs; exact List.mem_append_right _ (List.mem_append_right _ (List.mem_append_right _ (List.mem_append_right _ (List.mem_append_right _ (List.mem_append_right _ (List.mem_append_right _ (List.mem_append_right _ (List.mem_append_left _ (List.mem_of_getElem? (i := 6) rfl))))))))))
theorem m12_17 : Cond.instanceMethod ⟨"HomeSystemModel$Program", "binary", "()I"⟩ ∈ AL := AL_12 (List.mem_of_getElem? (i := 17) rfl) rfl
theorem m12_11 : Cond.methodLink "HomeSystemModel$Program" 393 ⟨"HomeSystemModel$Program", "conditional", "()I"⟩ ∈ AL := AL_12 (List.mem_of_getElem? (i := 11) rfl) rfl
theorem m12_14 : Cond.code ⟨"HomeSystemModel$Program", "conditional", "()I"⟩ prog_16_method_32_code 7 (Option.some FieldType.int) ∈ AL := AL_12 (List.mem_of_getElem? (i := 14) rfl) rfl
theorem ms_9_5 : Cond.selects "HomeSystemModel$Program" ⟨"HomeSystemModel$Program", "conditional", "()I"⟩ ⟨"HomeSystemModel$Program", "conditional", "()I"⟩ ∈ AL := AL_p (q := (⟨"HomeSystemModel$Program", "conditional", "()I"⟩, 69)) (by unfold lw_privs; exact List.mem_append_right _ (List.mem_append_right _ (List.mem_append_right _ (List.mem_append_right _ (List.mem_append_right _ (List.mem_append_right _ (List.mem_append_right _ (List.mem_append_right _ (List.mem_append_left _ (List.mem_of_getElem? (i := 5) rfl))))))))))
theorem m12_13 : Cond.instanceMethod ⟨"HomeSystemModel$Program", "conditional", "()I"⟩ ∈ AL := AL_12 (List.mem_of_getElem? (i := 13) rfl) rfl
set_option maxHeartbeats 4000000 in
set_option maxRecDepth 100000 in
theorem c_mp_conditional (l : Launch) (D : va_G) (cs : Nat → ClassId) (h : Nat) (r : Nat → Nat) (g : Nat → Nat → Option Nat) (tf : Nat → Int32) (ta : Nat → Nat → Int32) (cf : Nat → Int32) (ca : Nat → Nat → Int32) (ef : Nat → Int32) (ea : Nat → Nat → Int32) (xf : Nat → Int32) (xa : Nat → Nat → Int32) (pf : Nat → Int32) (na : Nat → Nat → Int32) (ma : Nat → Nat → Int32) (wa : Nat → Nat → Int32) (lv : Nat) (g0 : 0 ≤ (pf 11).toInt) (g1 : (pf 11).toInt < (tf 6).toInt) (g2 : (tf 6).toInt ≤ 2049) (g3 : 0 ≤ (pf 12).toInt) (g4 : (pf 12).toInt ≤ 60) (g5 : 0 ≤ (pf 13).toInt) (g6 : (pf 13).toInt ≤ (pf 11).toInt + 20) (g7 : 0 ≤ (pf 26).toInt) (g8 : (pf 26).toInt ≤ (pf 12).toInt) (g9 : 61 ≤ (pf 12).toInt + (lv : Int)) (g10 : lv ≤ 61) (hlf : l.flags = pinnedFlags ++ [noTraceFlag]) (htk : TkI tf ta) (hfs : FsI (tf 6).toInt (pf 13).toInt na) (hE : LvE l D cs lv) : ThI l y_Mpg_conditional b_Mpg_conditional 7 (.int) D cs (8 * lv + 19) (220 * lv + 690) [.ref h] [wdP cs h r g tf ta pf na ma wa cf ca ef ea xf xa] (oX (fun A U H => (oN A U H) ∧ (oP A g U H)) [wdP cs h r g tf ta pf na ma wa cf ca ef ea xf xa]) "java/lang/IllegalArgumentException" (fun v ps => ∃ (pf' : Nat → Int32) (na' : Nat → Nat → Int32) (ma' : Nat → Nat → Int32) (wa' : Nat → Nat → Int32), (ps = [wdP cs h r g tf ta pf' na' ma' wa' cf ca ef ea xf xa]) ∧ ((pf 11).toInt + 1 ≤ (pf' 11).toInt) ∧ ((pf' 11).toInt < (tf 6).toInt) ∧ ((pf 13).toInt + 1 ≤ (pf' 13).toInt) ∧ ((pf' 13).toInt - (pf 13).toInt ≤ (pf' 11).toInt - (pf 11).toInt) ∧ (bp ta (pf 11) + 1 ≤ bp ta (pf' 11)) ∧ ((pf' 12).toInt = (pf 12).toInt) ∧ ((pf' 24).toInt = (pf 24).toInt) ∧ ((pf' 25).toInt = (pf 25).toInt) ∧ ((pf' 26).toInt = (pf 26).toInt) ∧ (FrB (pf 13).toInt na ma na' ma') ∧ (FrW (pf 26).toInt wa wa') ∧ (ExD ta (tf 6).toInt na' ma' v (pf 13).toInt (pf' 13).toInt (3 * (bp ta (pf' 11) - bp ta (pf 11))) (pf 12).toInt) ∧ (FsI (tf 6).toInt (pf' 13).toInt na') ∧ (R_mp_conditional (RL_mp_expression lv) (RL_mp_conditional lv) ta pf na ma wa pf' na' ma' wa' v 0)) (fun ps => ∃ (pf' : Nat → Int32) (na' : Nat → Nat → Int32) (ma' : Nat → Nat → Int32) (wa' : Nat → Nat → Int32), ps = [wdP cs h r g tf ta pf' na' ma' wa' cf ca ef ea xf xa] ∧ 0 ≤ (pf' 11).toInt ∧ (pf' 11).toInt + 1 ≤ (tf 6).toInt ∧ R_mp_conditional (RL_mp_expression lv) (RL_mp_conditional lv) ta pf na ma wa pf' na' ma' wa' 0 1) := by
  refine th_enter (by decide) (Nat.le_of_ble_eq_true rfl) ?_
  intro p e s m below meth c A ls hAe S hr hlk hnm hA hT hX hw hl hne hadm
  have hl : lv_has ls 7 [(0, .ref h)] := hl
  have cstm1 : ((-1) : Int32).toInt = (-1) := rfl
  have cst1 : (1 : Int32).toInt = 1 := rfl
  have cst8 : (8 : Int32).toInt = 8 := rfl
  have hX : (fun A U H => (oN A U H) ∧ (oP A g U H)) A s s.heap := by rw [hAe]; exact hX
  obtain ⟨hN, hP⟩ := hX
  have hZ := hP.1
  have hF0 := hP.2.1
  have hfb : FrB (pf 13).toInt na ma na ma := FrB.rf
  have hfw : FrW (pf 26).toInt wa wa := FrW.rf
  refine lv_aload_n S.x S.b d_Mpg_conditional_0 rfl (lv_at hl 0 rfl) ?_
  refine px_get S k_Mpg hT hw 0 0 11 (v := .int (pf 11)) rfl rfl rfl (by decide) m9_235 d_Mpg_conditional_1 ?_
  refine lv_istore_n (lv' := [(1, .int (pf 11)), (0, .ref h)]) S.x S.b d_Mpg_conditional_4 rfl hl (by decide) rfl (fun ls hl => ?_)
  refine lv_aload_n S.x S.b d_Mpg_conditional_5 rfl (lv_at hl 1 rfl) ?_
  refine th_calli (ps0 := [wdP cs h r g tf ta pf na ma wa cf ca ef ea xf xa]) (pr := []) (pcs := [wdP cs h r g tf ta pf na ma wa cf ca ef ea xf xa]) (As := []) (rest := []) (c_mp_binary l D cs h r g tf ta cf ca ef ea xf xa pf na ma wa  lv (show 0 ≤ (pf 11).toInt from by first | exact g0 | omega) (show (pf 11).toInt < (tf 6).toInt from by first | exact g1 | omega) (show (tf 6).toInt ≤ 2049 from by first | exact g2 | omega) (show 0 ≤ (pf 12).toInt from by first | exact g3 | omega) (show (pf 12).toInt ≤ 60 from by first | exact g4 | omega) (show 0 ≤ (pf 13).toInt from by first | exact g5 | omega) (show (pf 13).toInt ≤ (pf 11).toInt + 20 from by first | exact g6 | omega) (show 0 ≤ (pf 26).toInt from by first | exact g7 | omega) (show (pf 26).toInt ≤ (pf 12).toInt from by first | exact g8 | omega) (show 61 ≤ (pf 12).toInt + (lv : Int) from by first | exact g9 | omega) (show lv ≤ 61 from by first | exact g10 | omega) hlf htk (FsI.le (N' := (pf 13).toInt) hfs (by omega)) hE) S hT hw (oX_call (P := (fun A U H => (oN A U H) ∧ (oP A g U H))) (pr := []) (oG_and oG_N oG_P) hw hA ⟨hN, hP⟩) (px_recv hT hw 0 0 rfl rfl rfl) m12_18 m12_15 m12_17 ms_9_6 m1_21 q_Mpg_binary ⟨show (8 * lv + 18) + 1 ≤ (8 * lv + 19) from (by first | exact oz_94f3ba2d66 | omega), show 8 + (5 + 11) + (220 * lv + 660) ≤ (220 * lv + 690) from (by first | exact oz_c96e348a6b | omega)⟩ hl.1 rfl (Nat.le_of_ble_eq_true rfl) d_Mpg_conditional_6 ⟨Nat.le_of_ble_eq_true rfl, Nat.le_of_ble_eq_true rfl⟩ hne hlk hA hAe (fun o t h => Or.inr h) ?_ (fun v10 p9 H locs hp9 hw => ?_)
  · exact fun p1 H1 locs1 hp hw => by obtain ⟨pq1, pq2, pq3, pq4, rfl, hq1, hq2, hq3⟩ := hp; exact ⟨_, ⟨pq1, pq2, pq3, pq4, rfl, hq1, hq2, (Or.inl (Or.inl ⟨pq1, pq2, pq3, pq4, hq3, rfl, rfl, rfl, rfl, rfl, rfl⟩))⟩, hw⟩
  obtain ⟨pf5, na6, ma7, wa8, rfl, e11, e12, e13, e14, e15, e16, e17, e18, e19, e20, e21, e22, e23, e24⟩ := hp9
  have e11 : (pf 11).toInt + 1 ≤ (pf5 11).toInt := e11
  have e12 : (pf5 11).toInt < (tf 6).toInt := e12
  have e13 : (pf 13).toInt + 1 ≤ (pf5 13).toInt := e13
  have e14 : (pf5 13).toInt - (pf 13).toInt ≤ (pf5 11).toInt - (pf 11).toInt := e14
  have e15 : bp ta (pf 11) + 1 ≤ bp ta (pf5 11) := e15
  have e16 : (pf5 12).toInt = (pf 12).toInt := e16
  have e17 : (pf5 24).toInt = (pf 24).toInt := e17
  have e18 : (pf5 25).toInt = (pf 25).toInt := e18
  have e19 : (pf5 26).toInt = (pf 26).toInt := e19
  have e20 : FrB (pf 13).toInt na ma na6 ma7 := e20
  have hfb := hfb.tr e20 (by omega)
  have e21 : FrW (pf 26).toInt wa wa8 := e21
  have hfw := hfw.tr e21 (by omega)
  have e22 : ExD ta (tf 6).toInt na6 ma7 v10 (pf 13).toInt (pf5 13).toInt (3 * (bp ta (pf5 11) - bp ta (pf 11))) (pf 12).toInt := e22
  have hxd_v10 := e22
  have hnx_v10 := hxd_v10.num
  have e23 : FsI (tf 6).toInt (pf5 13).toInt na6 := e23
  have hfs := e23
  have e24 : R_mp_binary (RL_mp_expression lv) (RL_mp_conditional lv) ta pf na ma wa pf5 na6 ma7 wa8 v10 0 := e24
  have hw : pw D A s.heap H locs [wdP cs h r g tf ta pf5 na6 ma7 wa8 cf ca ef ea xf xa] := hw
  have lv10 := Int32.le_toInt v10
  have uv10 := Int32.toInt_lt v10
  refine lv_istore_n (lv' := [(2, .int v10), (1, .int (pf 11)), (0, .ref h)]) S.x S.b d_Mpg_conditional_9 rfl hl (by decide) rfl (fun ls hl => ?_)
  refine lv_aload_n S.x S.b d_Mpg_conditional_10 rfl (lv_at hl 2 rfl) ?_
  obtain ⟨sk25, hRsk25, st26, hSsk25⟩ := oP_litB hP (k := 105) (tx := "?") (n := 1) (List.mem_of_getElem? (i := 44) rfl)
  refine va_ldcS S.x S.b S.own hRsk25 d_Mpg_conditional_11 ?_
  refine px_calli (pr := []) (px_runV (As := [.ref sk25]) (rest := []) S (c_mp_is l D cs sk25 1 (lby "?") h r g tf ta pf5 na6 ma7 wa8 cf ca ef ea xf xa   (show 0 ≤ (pf5 11).toInt from by first | exact oz_06d7f15a5c e11 g0 | omega) (show (pf5 11).toInt < (tf 6).toInt from by first | exact e12 | omega) (show (tf 6).toInt ≤ 2049 from by first | exact g2 | omega) (show 1 ≤ 100 from by omega) htk _) hT (pr := []) (pcs := [wdP cs h r g tf ta pf5 na6 ma7 wa8 cf ca ef ea xf xa]) hw (oX_call (P := (fun A U H => (oP A g U H) ∧ (StLt A sk25 1 (lby "?") U H))) (pr := []) (oG_and oG_P oG_QB) hw hA ⟨hP, ⟨_, hSsk25⟩⟩) (px_recv hT hw 0 0 rfl rfl rfl) m11_217 m11_214 m11_216 ms_8_14 m1_21 q_Mpg_is ⟨show 3 + 1 ≤ (8 * lv + 19) from (by first | exact oz_d04c090395 | omega), show 8 + (2 + 11) + 120 ≤ (220 * lv + 690) from (by first | exact oz_2a4df03d6c | omega)⟩ hl.1 rfl (Nat.le_of_ble_eq_true rfl) d_Mpg_conditional_13 ⟨Nat.le_of_ble_eq_true rfl, Nat.le_of_ble_eq_true rfl⟩) hw hA (fun v29 p28 H locs hp28 hw => ?_)
  obtain ⟨rfl, e30, e31, e32⟩ := hp28
  have e30 := z_rng e30
  have e31 : v29.toInt = 1 → (pf5 11).toInt + 1 < (tf 6).toInt ∧ so ta (pf5 11) = 5 := e31
  have e32 : R_mp_is 1 (lby "?") ta pf5 v29 := e32
  have hw : pw D A s.heap H locs [wdP cs h r g tf ta pf5 na6 ma7 wa8 cf ca ef ea xf xa] := hw
  have lv29 := Int32.le_toInt v29
  have uv29 := Int32.toInt_lt v29
  refine lv_if_ne (tgt := 21) S.x S.b d_Mpg_conditional_16 (by decide) (fun c33 => ?_) (fun c33 => ?_)
  · have nc33 : ¬ v29.toInt = (0 : Int) := mt (i_eq (x := v29) (y := 0)).mpr c33
    refine lv_aload_n S.x S.b d_Mpg_conditional_21 rfl (lv_at hl 2 rfl) ?_
    refine px_get S k_Mpg hT hw 0 0 11 (v := .int (pf5 11)) rfl rfl rfl (by decide) m9_235 d_Mpg_conditional_22 ?_
    refine lv_istore_n (lv' := [(3, .int (pf5 11)), (2, .int v10), (1, .int (pf 11)), (0, .ref h)]) S.x S.b d_Mpg_conditional_25 rfl hl (by decide) rfl (fun ls hl => ?_)
    refine lv_aload_n S.x S.b d_Mpg_conditional_26 rfl (lv_at hl 3 rfl) ?_
    refine lv_iload_n S.x S.b d_Mpg_conditional_27 rfl (lv_at hl 1 rfl) ?_
    refine lv_if_ge (tgt := 37) S.x S.b d_Mpg_conditional_28 (by decide) (fun c35 => ?_) (fun c35 => ?_)
    · have nc35 : (0 : Int) ≤ v10.toInt := (i_le (x := 0) (y := v10)).mp c35
      refine lv_iload_n S.x S.b d_Mpg_conditional_37 rfl (lv_at hl 1 rfl) ?_
      have ht_v10 := hxd_v10.pos (by omega); have hn_ht_v10 := ht_v10.num
      refine th_callv (ps0 := [wdP cs h r g tf ta pf na ma wa cf ca ef ea xf xa]) (pr := []) (pcs := [wdP cs h r g tf ta pf5 na6 ma7 wa8 cf ca ef ea xf xa]) (As := [.int v10]) (rest := []) (c_mp_stands l D cs h r g tf ta pf5 na6 ma7 wa8 cf ca ef ea xf xa v10  (show 0 ≤ (pf5 11).toInt from by first | exact oz_06d7f15a5c e11 g0 | omega) (show (pf5 11).toInt < (tf 6).toInt from by first | exact e12 | omega) (show 0 ≤ v10.toInt from by first | exact oz_0ffba53c78 nc35 | omega) (show v10.toInt < 2100 from by first | exact oz_be39d08caa hnx_v10.1 e14 g6 e12 g2 | omega) (show 0 ≤ dp na6 v10 from by omega) (show dp na6 v10 ≤ 1000 from by omega) (show 0 ≤ (pf5 12).toInt from by first | exact oz_f3ebed1ad0 e16 g3 | omega) (show (pf5 12).toInt ≤ 60 from by first | exact oz_a3db38fa3c e16 g4 | omega) hlf htk) S hT hw (oX_call (P := (fun A U H => (oN A U H) ∧ (oP A g U H))) (pr := []) (oG_and oG_N oG_P) hw hA ⟨hN, hP⟩) (px_recv hT hw 0 0 rfl rfl rfl) m12_46 m12_43 m12_45 ms_9_13 m1_21 q_Mpg_stands2 ⟨show 7 + 1 ≤ (8 * lv + 19) from (by first | exact oz_b5487fe559 | omega), show 8 + (2 + 11) + 150 ≤ (220 * lv + 690) from (by first | exact oz_de4190bbcc | omega)⟩ hl.1 rfl (Nat.le_of_ble_eq_true rfl) d_Mpg_conditional_38 ⟨Nat.le_of_ble_eq_true rfl, Nat.le_of_ble_eq_true rfl⟩ hne hlk hA hAe (fun o t h => Or.inr h) ?_ (fun p37 H locs hp37 hw => ?_)
      · exact fun p1 H1 locs1 hp hw => by obtain ⟨pq1, pq2, pq3, pq4, rfl, hq1, hq2, hu_pf, hu_na, hu_ma, hu_wa, hq3⟩ := hp; exact ⟨_, ⟨pq1, pq2, pq3, pq4, rfl, hq1, hq2, (Or.inl (Or.inr ⟨pf5, na6, ma7, wa8, v10, e24, v29, e32, Or.inl ⟨nc33, Or.inl ⟨nc35, Or.inl ⟨hq3, hu_pf, hu_na, hu_ma, hu_wa, rfl, rfl⟩⟩⟩⟩))⟩, hw⟩
      obtain ⟨rfl, e39, e40⟩ := hp37
      have e39 : (pf5 12).toInt + dp na6 v10 < 60 := e39
      have e40 : R_mp_stands pf5 na6 v10 0 := e40
      have hw : pw D A s.heap H locs [wdP cs h r g tf ta pf5 na6 ma7 wa8 cf ca ef ea xf xa] := hw
      refine lv_aload_n S.x S.b d_Mpg_conditional_41 rfl (lv_at hl 3 rfl) ?_
      refine th_callv (ps0 := [wdP cs h r g tf ta pf na ma wa cf ca ef ea xf xa]) (pr := []) (pcs := [wdP cs h r g tf ta pf5 na6 ma7 wa8 cf ca ef ea xf xa]) (As := []) (rest := []) (c_mp_opens l D cs h r g tf ta na6 ma7 wa8 cf ca ef ea xf xa pf5   (show 0 ≤ (pf5 11).toInt from by first | exact oz_06d7f15a5c e11 g0 | omega) (show (pf5 11).toInt < (tf 6).toInt from by first | exact e12 | omega) (show (tf 6).toInt ≤ 2049 from by first | exact g2 | omega) (show (pf5 11).toInt + 1 < (tf 6).toInt from by omega) (show 0 ≤ (pf5 12).toInt from by first | exact oz_f3ebed1ad0 e16 g3 | omega) (show (pf5 12).toInt ≤ 60 from by first | exact oz_a3db38fa3c e16 g4 | omega) hlf htk) S hT hw (oX_call (P := (fun A U H => (oN A U H) ∧ (oP A g U H))) (pr := []) (oG_and oG_N oG_P) hw hA ⟨hN, hP⟩) (px_recv hT hw 0 0 rfl rfl rfl) m11_238 m11_235 m11_237 ms_9_1 m1_21 q_Mpg_opens ⟨show 7 + 1 ≤ (8 * lv + 19) from (by first | exact oz_b5487fe559 | omega), show 8 + (1 + 11) + 150 ≤ (220 * lv + 690) from (by first | exact oz_7fadf8ac0b | omega)⟩ hl.1 rfl (Nat.le_of_ble_eq_true rfl) d_Mpg_conditional_42 ⟨Nat.le_of_ble_eq_true rfl, Nat.le_of_ble_eq_true rfl⟩ hne hlk hA hAe (fun o t h => Or.inr h) ?_ (fun p43 H locs hp43 hw => ?_)
      · exact fun p1 H1 locs1 hp hw => by obtain ⟨pq1, pq2, pq3, pq4, rfl, hq1, hq2, hu_na, hu_ma, hu_wa, hq3⟩ := hp; exact ⟨_, ⟨pq1, pq2, pq3, pq4, rfl, hq1, hq2, (Or.inl (Or.inr ⟨pf5, na6, ma7, wa8, v10, e24, v29, e32, Or.inl ⟨nc33, Or.inl ⟨nc35, Or.inr ⟨e40, Or.inl ⟨pq1, hq3, rfl, hu_na, hu_ma, hu_wa, rfl, rfl⟩⟩⟩⟩⟩))⟩, hw⟩
      obtain ⟨pf42, rfl, e45, e46, e47, e48, e49, e50, e51, e52, e53, e54, e55⟩ := hp43
      have e45 : (pf42 11).toInt = (pf5 11).toInt + 1 := e45
      have e46 : (pf42 11).toInt < (tf 6).toInt := e46
      have e47 : bp ta (pf5 11) + sz ta (pf5 11) ≤ bp ta (pf42 11) := e47
      have e48 : 1 ≤ sz ta (pf5 11) := e48
      have e49 : (pf42 12).toInt = (pf5 12).toInt + 1 := e49
      have e50 : (pf5 12).toInt < 60 := e50
      have e51 : (pf42 13).toInt = (pf5 13).toInt := e51
      have e52 : (pf42 24).toInt = (pf5 24).toInt := e52
      have e53 : (pf42 25).toInt = (pf5 25).toInt := e53
      have e54 : (pf42 26).toInt = (pf5 26).toInt := e54
      have e55 : R_mp_opens pf5 pf42 0 := e55
      have hw : pw D A s.heap H locs [wdP cs h r g tf ta pf42 na6 ma7 wa8 cf ca ef ea xf xa] := hw
      refine lv_aload_n S.x S.b d_Mpg_conditional_45 rfl (lv_at hl 3 rfl) ?_
      refine th_calli (ps0 := [wdP cs h r g tf ta pf na ma wa cf ca ef ea xf xa]) (pr := []) (pcs := [wdP cs h r g tf ta pf42 na6 ma7 wa8 cf ca ef ea xf xa]) (As := []) (rest := []) ((hE.go (by omega)).1 h r g tf ta cf ca ef ea xf xa pf42 na6 ma7 wa8   (show 0 ≤ (pf42 11).toInt from by first | exact oz_184ed96a99 e45 e11 g0 | omega) (show (pf42 11).toInt < (tf 6).toInt from by first | exact e46 | omega) (show (tf 6).toInt ≤ 2049 from by first | exact g2 | omega) (show 0 ≤ (pf42 12).toInt from by first | exact oz_87be06313f e49 e16 g8 g7 | omega) (show (pf42 12).toInt ≤ 60 from by first | exact oz_6710fd9021 e49 e50 | omega) (show 0 ≤ (pf42 13).toInt from by first | exact oz_bd8959faaf e51 hnx_v10.1 hnx_v10.2 | omega) (show (pf42 13).toInt ≤ (pf42 11).toInt + 20 from by first | exact oz_815a17a6fa e45 e51 e14 g6 | omega) (show 0 ≤ (pf42 26).toInt from by first | exact oz_e2fef14871 e54 e19 g7 | omega) (show (pf42 26).toInt ≤ (pf42 12).toInt from by first | exact oz_e919e29b70 e49 e54 e16 e19 g8 | omega) (show 61 ≤ (pf42 12).toInt + ((lv - 1 : Nat) : Int) from by omega) (show lv - 1 ≤ 61 from by omega) hlf htk (FsI.le (N' := (pf42 13).toInt) hfs (by omega))) S hT hw (oX_call (P := (fun A U H => (oN A U H) ∧ (oP A g U H))) (pr := []) (oG_and oG_N oG_P) hw hA ⟨hN, hP⟩) (px_recv hT hw 0 0 rfl rfl rfl) m12_38 m12_35 m12_37 ms_9_11 m1_21 q_Mpg_expression ⟨show (8 * (lv - 1) + 20) + 1 ≤ (8 * lv + 19) from by omega, show 8 + (7 + 11) + (220 * (lv - 1) + 720) ≤ (220 * lv + 690) from by omega⟩ hl.1 rfl (Nat.le_of_ble_eq_true rfl) d_Mpg_conditional_46 ⟨Nat.le_of_ble_eq_true rfl, Nat.le_of_ble_eq_true rfl⟩ hne hlk hA hAe (fun o t h => Or.inr h) ?_ (fun v65 p64 H locs hp64 hw => ?_)
      · exact fun p1 H1 locs1 hp hw => by obtain ⟨pq1, pq2, pq3, pq4, rfl, hq1, hq2, hq3⟩ := hp; exact ⟨_, ⟨pq1, pq2, pq3, pq4, rfl, hq1, hq2, (Or.inl (Or.inr ⟨pf5, na6, ma7, wa8, v10, e24, v29, e32, Or.inl ⟨nc33, Or.inl ⟨nc35, Or.inr ⟨e40, Or.inr ⟨pf42, e55, Or.inl ⟨pq1, pq2, pq3, pq4, (up_RL_mp_expression (show 1 ≤ lv from by first | exact oz_6721671b0f g9 g4 | omega) ▸ hq3), rfl, rfl, rfl, rfl, rfl, rfl⟩⟩⟩⟩⟩⟩))⟩, hw⟩
      obtain ⟨pf60, na61, ma62, wa63, rfl, e66, e67, e68, e69, e70, e71, e72, e73, e74, e75, e76, e77, e78, e79⟩ := hp64
      have e66 : (pf42 11).toInt + 1 ≤ (pf60 11).toInt := e66
      have e67 : (pf60 11).toInt < (tf 6).toInt := e67
      have e68 : (pf42 13).toInt + 1 ≤ (pf60 13).toInt := e68
      have e69 : (pf60 13).toInt - (pf42 13).toInt ≤ (pf60 11).toInt - (pf42 11).toInt := e69
      have e70 : bp ta (pf42 11) + 1 ≤ bp ta (pf60 11) := e70
      have e71 : (pf60 12).toInt = (pf42 12).toInt := e71
      have e72 : (pf60 24).toInt = (pf42 24).toInt := e72
      have e73 : (pf60 25).toInt = (pf42 25).toInt := e73
      have e74 : (pf60 26).toInt = (pf42 26).toInt := e74
      have e75 : FrB (pf42 13).toInt na6 ma7 na61 ma62 := e75
      have ht_v10 := ht_v10.kp (FrB.le e75 (by omega)) (by omega)
      have hn_ht_v10 := ht_v10.num
      have hdq_v10 := dp_fb (x := v10) e75 (by omega) (by omega)
      have hxd_v10 := hxd_v10.kp (FrB.le e75 (by omega)) (by omega)
      have hfb := hfb.tr e75 (by omega)
      have e76 : FrW (pf42 26).toInt wa8 wa63 := e76
      have hfw := hfw.tr e76 (by omega)
      have e77 : ExR ta (tf 6).toInt na61 ma62 v65 (pf42 13).toInt (pf60 13).toInt (3 * (bp ta (pf60 11) - bp ta (pf42 11))) (pf42 12).toInt := e77
      have ht_v65 := e77
      have hn_ht_v65 := ht_v65.num
      have e78 : FsI (tf 6).toInt (pf60 13).toInt na61 := e78
      have hfs := e78
      have e79 : R_mp_expression (RL_mp_expression (lv - 1)) (RL_mp_conditional (lv - 1)) ta pf42 na6 ma7 wa8 pf60 na61 ma62 wa63 v65 0 := e79
      have e79L : (RL_mp_expression lv) ta pf42 na6 ma7 wa8 pf60 na61 ma62 wa63 v65 0 := up_RL_mp_expression (show 1 ≤ lv from by first | exact oz_6721671b0f g9 g4 | omega) ▸ e79
      have hw : pw D A s.heap H locs [wdP cs h r g tf ta pf60 na61 ma62 wa63 cf ca ef ea xf xa] := hw
      have lv65 := Int32.le_toInt v65
      have uv65 := Int32.toInt_lt v65
      refine lv_istore (lv' := [(4, .int v65), (3, .int (pf5 11)), (2, .int v10), (1, .int (pf 11)), (0, .ref h)]) S.x S.b d_Mpg_conditional_49 hl (by decide) rfl (fun ls hl => ?_)
      refine lv_aload_n S.x S.b d_Mpg_conditional_51 rfl (lv_at hl 4 rfl) ?_
      obtain ⟨sk80, hRsk80, st81, hSsk80⟩ := oP_litB hP (k := 103) (tx := ":") (n := 1) (List.mem_of_getElem? (i := 43) rfl)
      refine va_ldcS S.x S.b S.own hRsk80 d_Mpg_conditional_52 ?_
      refine th_callv (ps0 := [wdP cs h r g tf ta pf na ma wa cf ca ef ea xf xa]) (pr := []) (pcs := [wdP cs h r g tf ta pf60 na61 ma62 wa63 cf ca ef ea xf xa]) (As := [.ref sk80]) (rest := []) (c_mp_take l D cs sk80 1 (lby ":") h r g tf ta na61 ma62 wa63 cf ca ef ea xf xa pf60   (show 0 ≤ (pf60 11).toInt from by first | exact oz_06fa2c383c e66 e45 g0 e11 | omega) (show (pf60 11).toInt < (tf 6).toInt from by first | exact e67 | omega) (show (tf 6).toInt ≤ 2049 from by first | exact g2 | omega) (show 1 ≤ 100 from by omega) hlf htk) S hT hw (oX_call (P := (fun A U H => (oN A U H) ∧ (oP A g U H) ∧ (StLt A sk80 1 (lby ":") U H))) (pr := []) (oG_and oG_N (oG_and oG_P oG_QB)) hw hA ⟨hN, hP, ⟨_, hSsk80⟩⟩) (px_recv hT hw 0 0 rfl rfl rfl) m12_57 m12_54 m12_56 ms_9_15 m1_21 q_Mpg_take ⟨show 7 + 1 ≤ (8 * lv + 19) from (by first | exact oz_b5487fe559 | omega), show 8 + (2 + 11) + 230 ≤ (220 * lv + 690) from (by first | exact oz_3bd8703fc7 | omega)⟩ hl.1 rfl (Nat.le_of_ble_eq_true rfl) d_Mpg_conditional_54 ⟨Nat.le_of_ble_eq_true rfl, Nat.le_of_ble_eq_true rfl⟩ hne hlk hA hAe (fun o t h => Or.inr h) ?_ (fun p85 H locs hp85 hw => ?_)
      · exact fun p1 H1 locs1 hp hw => by obtain ⟨pq1, pq2, pq3, pq4, rfl, hq1, hq2, hu_na, hu_ma, hu_wa, hq3⟩ := hp; exact ⟨_, ⟨pq1, pq2, pq3, pq4, rfl, hq1, hq2, (Or.inl (Or.inr ⟨pf5, na6, ma7, wa8, v10, e24, v29, e32, Or.inl ⟨nc33, Or.inl ⟨nc35, Or.inr ⟨e40, Or.inr ⟨pf42, e55, Or.inr ⟨pf60, na61, ma62, wa63, v65, e79L, Or.inl ⟨pq1, hq3, rfl, hu_na, hu_ma, hu_wa, rfl, rfl⟩⟩⟩⟩⟩⟩⟩))⟩, hw⟩
      obtain ⟨pf84, rfl, e87, e88, e89, e90, e91, e92, e93, e94, e95⟩ := hp85
      have e87 : (pf84 11).toInt = (pf60 11).toInt + 1 := e87
      have e88 : (pf84 11).toInt < (tf 6).toInt := e88
      have e89 : bp ta (pf60 11) + 1 ≤ bp ta (pf84 11) := e89
      have e90 : (pf84 12).toInt = (pf60 12).toInt := e90
      have e91 : (pf84 13).toInt = (pf60 13).toInt := e91
      have e92 : (pf84 24).toInt = (pf60 24).toInt := e92
      have e93 : (pf84 25).toInt = (pf60 25).toInt := e93
      have e94 : (pf84 26).toInt = (pf60 26).toInt := e94
      have e95 : R_mp_take 1 (lby ":") ta pf60 pf84 0 := e95
      have hw : pw D A s.heap H locs [wdP cs h r g tf ta pf84 na61 ma62 wa63 cf ca ef ea xf xa] := hw
      refine lv_aload_n S.x S.b d_Mpg_conditional_57 rfl (lv_at hl 4 rfl) ?_
      refine th_calli (ps0 := [wdP cs h r g tf ta pf na ma wa cf ca ef ea xf xa]) (pr := []) (pcs := [wdP cs h r g tf ta pf84 na61 ma62 wa63 cf ca ef ea xf xa]) (As := []) (rest := []) ((hE.go (by omega)).2 h r g tf ta cf ca ef ea xf xa pf84 na61 ma62 wa63   (show 0 ≤ (pf84 11).toInt from by first | exact oz_954c9acc8e e87 e66 g0 e11 e45 | omega) (show (pf84 11).toInt < (tf 6).toInt from by first | exact e88 | omega) (show (tf 6).toInt ≤ 2049 from by first | exact g2 | omega) (show 0 ≤ (pf84 12).toInt from by first | exact oz_cffcf29412 e90 e71 e49 e16 g8 g7 | omega) (show (pf84 12).toInt ≤ 60 from by first | exact oz_51eeb0c7ba e90 e71 e49 e50 | omega) (show 0 ≤ (pf84 13).toInt from by first | exact oz_e8098791ea e91 e68 e51 hnx_v10.1 hnx_v10.2 | omega) (show (pf84 13).toInt ≤ (pf84 11).toInt + 20 from by first | exact oz_301eea1e0b e87 e91 e69 g6 e14 e45 e51 | omega) (show 0 ≤ (pf84 26).toInt from by first | exact oz_00b9fbaef4 e94 e74 e54 e19 g7 | omega) (show (pf84 26).toInt ≤ (pf84 12).toInt from by first | exact oz_3357ca9d54 e90 e94 e71 e74 e49 e54 e16 e19 g8 | omega) (show 61 ≤ (pf84 12).toInt + ((lv - 1 : Nat) : Int) from by omega) (show lv - 1 ≤ 61 from by omega) hlf htk (FsI.le (N' := (pf84 13).toInt) hfs (by omega))) S hT hw (oX_call (P := (fun A U H => (oN A U H) ∧ (oP A g U H))) (pr := []) (oG_and oG_N oG_P) hw hA ⟨hN, hP⟩) (px_recv hT hw 0 0 rfl rfl rfl) m12_14 m12_11 m12_13 ms_9_5 m1_21 q_Mpg_conditional ⟨show (8 * (lv - 1) + 19) + 1 ≤ (8 * lv + 19) from by omega, show 8 + (7 + 11) + (220 * (lv - 1) + 690) ≤ (220 * lv + 690) from by omega⟩ hl.1 rfl (Nat.le_of_ble_eq_true rfl) d_Mpg_conditional_58 ⟨Nat.le_of_ble_eq_true rfl, Nat.le_of_ble_eq_true rfl⟩ hne hlk hA hAe (fun o t h => Or.inr h) ?_ (fun v105 p104 H locs hp104 hw => ?_)
      · exact fun p1 H1 locs1 hp hw => by obtain ⟨pq1, pq2, pq3, pq4, rfl, hq1, hq2, hq3⟩ := hp; exact ⟨_, ⟨pq1, pq2, pq3, pq4, rfl, hq1, hq2, (Or.inl (Or.inr ⟨pf5, na6, ma7, wa8, v10, e24, v29, e32, Or.inl ⟨nc33, Or.inl ⟨nc35, Or.inr ⟨e40, Or.inr ⟨pf42, e55, Or.inr ⟨pf60, na61, ma62, wa63, v65, e79L, Or.inr ⟨pf84, e95, Or.inl ⟨pq1, pq2, pq3, pq4, (up_RL_mp_conditional (show 1 ≤ lv from by first | exact oz_6721671b0f g9 g4 | omega) ▸ hq3), rfl, rfl, rfl, rfl, rfl, rfl⟩⟩⟩⟩⟩⟩⟩⟩))⟩, hw⟩
      obtain ⟨pf100, na101, ma102, wa103, rfl, e106, e107, e108, e109, e110, e111, e112, e113, e114, e115, e116, e117, e118, e119⟩ := hp104
      have e106 : (pf84 11).toInt + 1 ≤ (pf100 11).toInt := e106
      have e107 : (pf100 11).toInt < (tf 6).toInt := e107
      have e108 : (pf84 13).toInt + 1 ≤ (pf100 13).toInt := e108
      have e109 : (pf100 13).toInt - (pf84 13).toInt ≤ (pf100 11).toInt - (pf84 11).toInt := e109
      have e110 : bp ta (pf84 11) + 1 ≤ bp ta (pf100 11) := e110
      have e111 : (pf100 12).toInt = (pf84 12).toInt := e111
      have e112 : (pf100 24).toInt = (pf84 24).toInt := e112
      have e113 : (pf100 25).toInt = (pf84 25).toInt := e113
      have e114 : (pf100 26).toInt = (pf84 26).toInt := e114
      have e115 : FrB (pf84 13).toInt na61 ma62 na101 ma102 := e115
      have ht_v10 := ht_v10.kp (FrB.le e115 (by omega)) (by omega)
      have hn_ht_v10 := ht_v10.num
      have hdq_v10 := dp_fb (x := v10) e115 (by omega) (by omega)
      have ht_v65 := ht_v65.kp (FrB.le e115 (by omega)) (by omega)
      have hn_ht_v65 := ht_v65.num
      have hdq_v65 := dp_fb (x := v65) e115 (by omega) (by omega)
      have hxd_v10 := hxd_v10.kp (FrB.le e115 (by omega)) (by omega)
      have hfb := hfb.tr e115 (by omega)
      have e116 : FrW (pf84 26).toInt wa63 wa103 := e116
      have hfw := hfw.tr e116 (by omega)
      have e117 : ExD ta (tf 6).toInt na101 ma102 v105 (pf84 13).toInt (pf100 13).toInt (3 * (bp ta (pf100 11) - bp ta (pf84 11))) (pf84 12).toInt := e117
      have hxd_v105 := e117
      have hnx_v105 := hxd_v105.num
      have e118 : FsI (tf 6).toInt (pf100 13).toInt na101 := e118
      have hfs := e118
      have e119 : R_mp_conditional (RL_mp_expression (lv - 1)) (RL_mp_conditional (lv - 1)) ta pf84 na61 ma62 wa63 pf100 na101 ma102 wa103 v105 0 := e119
      have e119L : (RL_mp_conditional lv) ta pf84 na61 ma62 wa63 pf100 na101 ma102 wa103 v105 0 := up_RL_mp_conditional (show 1 ≤ lv from by first | exact oz_6721671b0f g9 g4 | omega) ▸ e119
      have hw : pw D A s.heap H locs [wdP cs h r g tf ta pf100 na101 ma102 wa103 cf ca ef ea xf xa] := hw
      have lv105 := Int32.le_toInt v105
      have uv105 := Int32.toInt_lt v105
      refine lv_istore (lv' := [(5, .int v105), (4, .int v65), (3, .int (pf5 11)), (2, .int v10), (1, .int (pf 11)), (0, .ref h)]) S.x S.b d_Mpg_conditional_61 hl (by decide) rfl (fun ls hl => ?_)
      refine lv_aload_n S.x S.b d_Mpg_conditional_63 rfl (lv_at hl 5 rfl) ?_
      refine lv_dup S.x S.b d_Mpg_conditional_64 rfl ?_
      refine px_get S k_Mpg hT hw 0 0 12 (v := .int (pf100 12)) rfl rfl rfl (by decide) m9_236 d_Mpg_conditional_65 ?_
      refine lv_iconst (v := 1) S.x S.b d_Mpg_conditional_68 (by decide) ?_
      refine lv_isub S.x S.b d_Mpg_conditional_69 ?_
      have lr120 := Int32.le_toInt (pf100 12)
      have ur120 := Int32.toInt_lt (pf100 12)
      refine lv_topi (fun z121 ez121 => ?_)
      have tz121 : z121.toInt = ((pf100 12).toInt - (1 : Int) + 2147483648) % 4294967296 - 2147483648 := by rw [ez121]; exact i_sub (pf100 12) 1
      have lz121 := Int32.le_toInt z121
      have uz121 := Int32.toInt_lt z121
      try replace tz121 : z121.toInt = (pf100 12).toInt - (1 : Int) := by omega
      refine px_put S k_Mpg hT hw 0 0 12 rfl rfl (by decide) m9_236 rfl rfl rfl (Nat.le_of_ble_eq_true rfl) d_Mpg_conditional_70 (w' := wdP cs h r g tf ta (upd pf100 12 z121) na101 ma102 wa103 cf ca ef ea xf xa) (ps' := [wdP cs h r g tf ta (upd pf100 12 z121) na101 ma102 wa103 cf ca ef ea xf xa]) rfl rfl (fun H locs hw => ?_)
      refine lv_aload_n S.x S.b d_Mpg_conditional_73 rfl (lv_at hl 5 rfl) ?_
      refine lv_bipush (v := 8) S.x S.b d_Mpg_conditional_74 (by decide) ?_
      refine lv_iload_n S.x S.b d_Mpg_conditional_76 rfl (lv_at hl 2 rfl) ?_
      refine px_calli (pr := []) (px_runV (As := [.int 8, .int (pf5 11)]) (rest := []) S (c_mp_make l D cs h r g tf ta wa103 cf ca ef ea xf xa (upd pf100 12 z121) na101 ma102 8 (pf5 11)  (show 0 ≤ (pf100 13).toInt from by first | exact oz_54eba00cf9 hnx_v105.1 hnx_v105.2 | omega) (show (pf100 13).toInt < 2100 from by first | exact oz_4f78757f1c e109 e87 e91 e107 g2 e69 g6 e14 e45 e51 | omega) _) hT (pr := []) (pcs := [wdP cs h r g tf ta (upd pf100 12 z121) na101 ma102 wa103 cf ca ef ea xf xa]) hw px_X.tt (px_recv hT hw 0 0 rfl rfl rfl) m11_209 m11_206 m11_208 ms_8_12 m1_21 q_Mpg_make ⟨show 0 + 1 ≤ (8 * lv + 19) from (by first | exact oz_11aebc2b0b | omega), show 8 + (3 + 11) + 0 ≤ (220 * lv + 690) from (by first | exact oz_88ea401393 | omega)⟩ hl.1 rfl (Nat.le_of_ble_eq_true rfl) d_Mpg_conditional_77 ⟨Nat.le_of_ble_eq_true rfl, Nat.le_of_ble_eq_true rfl⟩) hw hA (fun v129 p128 H locs hp128 hw => ?_)
      obtain ⟨pf125, na126, ma127, rfl, e130, e131, e132, e133, e134, e135, e136, e137, e138⟩ := hp128
      have e130 : v129.toInt = (pf100 13).toInt := e130
      have e131 : (pf125 13).toInt = (pf100 13).toInt + 1 := e131
      have e132 : (pf125 11).toInt = (pf100 11).toInt := e132
      have e133 : (pf125 12).toInt = z121.toInt := e133
      have e134 : (pf125 24).toInt = (pf100 24).toInt := e134
      have e135 : (pf125 25).toInt = (pf100 25).toInt := e135
      have e136 : (pf125 26).toInt = (pf100 26).toInt := e136
      have e137 : MkN na101 ma102 na126 ma127 v129 (8 : Int32) (pf5 11) := e137
      have e138 : R_mp_make (8 : Int32) (pf5 11) (upd pf100 12 z121) na101 ma102 pf125 na126 ma127 v129 := e138
      obtain ⟨qb1391, qb1392, qb1393, qb1394⟩ := tk_eq (ta := ta) (x := (pf125 11)) (y := (pf100 11)) (by omega)
      have hmk_v129 := e137
      have hfm_v129 := MkN.frb (b := v129.toInt) hmk_v129 (by omega) (by omega)
      have ht_v10 := ht_v10.kp (FrB.le hfm_v129 (by omega)) (by omega)
      have hn_ht_v10 := ht_v10.num
      have hdq_v10 := dp_fb (x := v10) hfm_v129 (by omega) (by omega)
      have ht_v65 := ht_v65.kp (FrB.le hfm_v129 (by omega)) (by omega)
      have hn_ht_v65 := ht_v65.num
      have hdq_v65 := dp_fb (x := v65) hfm_v129 (by omega) (by omega)
      have hxd_v10 := hxd_v10.kp (FrB.le hfm_v129 (by omega)) (by omega)
      have hxd_v105 := hxd_v105.kp (FrB.le hfm_v129 (by omega)) (by omega)
      have hfs := FsI.mk hfs hmk_v129 (by omega) (by omega) (by omega) (by omega)
      have hfb := hfb.tr hfm_v129 (by omega)
      have hnk_v129 := hmk_v129.nk (by decide) (by decide) (by omega)
      have hdn_v129 := dp_nk hmk_v129
      have hw : pw D A s.heap H locs [wdP cs h r g tf ta pf125 na126 ma127 wa103 cf ca ef ea xf xa] := hw
      have lv129 := Int32.le_toInt v129
      have uv129 := Int32.toInt_lt v129
      refine lv_istore (lv' := [(6, .int v129), (5, .int v105), (4, .int v65), (3, .int (pf5 11)), (2, .int v10), (1, .int (pf 11)), (0, .ref h)]) S.x S.b d_Mpg_conditional_80 hl (by decide) rfl (fun ls hl => ?_)
      refine lv_aload_n S.x S.b d_Mpg_conditional_82 rfl (lv_at hl 6 rfl) ?_
      refine px_get S k_Mpg hT hw 0 0 23 (v := .ref (r 23)) rfl rfl rfl (by decide) m10_11 d_Mpg_conditional_83 ?_
      refine lv_iload S.x S.b d_Mpg_conditional_86 (lv_at hl 0 rfl) ?_
      refine lv_iconst (v := 1) S.x S.b d_Mpg_conditional_88 (by decide) ?_
      refine lv_aload_n S.x S.b d_Mpg_conditional_89 rfl (lv_at hl 6 rfl) ?_
      refine px_get S k_Mpg hT hw 0 0 23 (v := .ref (r 23)) rfl rfl rfl (by decide) m10_11 d_Mpg_conditional_90 ?_
      refine lv_iload_n S.x S.b d_Mpg_conditional_93 rfl (lv_at hl 4 rfl) ?_
      refine lv_if_ge (tgt := 103) S.x S.b d_Mpg_conditional_94 (by decide) (fun c140 => ?_) (fun c140 => ?_)
      · have nc140 : (0 : Int) ≤ v10.toInt := (i_le (x := 0) (y := v10)).mp c140
        refine lv_iload_n S.x S.b d_Mpg_conditional_103 rfl (lv_at hl 4 rfl) ?_
        refine px_iald S hT hw 0 19 (n := 2100) (f := (na126 23)) rfl gp_23 (x := v10) (vp_in_iff.mpr (by first | exact oz_0c88cfaf88 nc35 hnx_v10.1 e14 g6 e45 g2 e66 e87 e88 | (constructor <;> omega))) d_Mpg_conditional_104 ?_
        refine lv_topi (fun z142 ez142 => ?_)
        have lz142 := Int32.le_toInt z142
        have uz142 := Int32.toInt_lt z142
        have rz142 : z142.toInt = dp na126 v10 := by rw [ez142]; rfl
        refine lv_aload_n S.x S.b d_Mpg_conditional_105 rfl (lv_at hl 6 rfl) ?_
        refine px_get S k_Mpg hT hw 0 0 23 (v := .ref (r 23)) rfl rfl rfl (by decide) m10_11 d_Mpg_conditional_106 ?_
        refine lv_iload S.x S.b d_Mpg_conditional_109 (lv_at hl 2 rfl) ?_
        refine px_iald S hT hw 0 19 (n := 2100) (f := (na126 23)) rfl gp_23 (x := v65) (vp_in_iff.mpr (by constructor <;> omega)) d_Mpg_conditional_111 ?_
        refine lv_topi (fun z143 ez143 => ?_)
        have lz143 := Int32.le_toInt z143
        have uz143 := Int32.toInt_lt z143
        have rz143 : z143.toInt = dp na126 v65 := by rw [ez143]; rfl
        refine lv_aload_n S.x S.b d_Mpg_conditional_112 rfl (lv_at hl 6 rfl) ?_
        refine px_get S k_Mpg hT hw 0 0 23 (v := .ref (r 23)) rfl rfl rfl (by decide) m10_11 d_Mpg_conditional_113 ?_
        refine lv_iload S.x S.b d_Mpg_conditional_116 (lv_at hl 1 rfl) ?_
        refine lv_if_ge (tgt := 128) S.x S.b d_Mpg_conditional_118 (by decide) (fun c144 => ?_) (fun c144 => ?_)
        · have nc144 : (0 : Int) ≤ v105.toInt := (i_le (x := 0) (y := v105)).mp c144
          refine lv_iload S.x S.b d_Mpg_conditional_128 (lv_at hl 1 rfl) ?_
          have ht_v105 := hxd_v105.pos (by omega); have hn_ht_v105 := ht_v105.num
          refine px_iald S hT hw 0 19 (n := 2100) (f := (na126 23)) rfl gp_23 (x := v105) (vp_in_iff.mpr (by first | exact oz_5801cd9f67 nc144 hnx_v105.1 e109 e87 e91 e107 g2 e69 g6 e14 e45 e51 | (constructor <;> omega))) d_Mpg_conditional_130 ?_
          refine lv_topi (fun z146 ez146 => ?_)
          have lz146 := Int32.le_toInt z146
          have uz146 := Int32.toInt_lt z146
          have rz146 : z146.toInt = dp na126 v105 := by rw [ez146]; rfl
          refine px_calli (pr := [wdP cs h r g tf ta pf125 na126 ma127 wa103 cf ca ef ea xf xa]) (px_runS (As := [.int z143, .int z146]) (rest := [.int z142, .int 1, .int v129, .ref (r 23)]) S (c_mp_deeper l D cs  z143 z146   _) hT (pr := [wdP cs h r g tf ta pf125 na126 ma127 wa103 cf ca ef ea xf xa]) (pcs := []) hw px_X.tt m12_49 m12_47 m12_48 m1_21 q_Mpg_deeper ⟨show 0 + 1 ≤ (8 * lv + 19) from (by first | exact oz_11aebc2b0b | omega), show 8 + (2 + 11) + 0 ≤ (220 * lv + 690) from (by first | exact oz_a5526f1e7e | omega)⟩ hl.1 rfl (Nat.le_of_ble_eq_true rfl) d_Mpg_conditional_131 ⟨Nat.le_of_ble_eq_true rfl, Nat.le_of_ble_eq_true rfl⟩) hw hA (fun v148 p147 H locs hp147 hw => ?_)
          obtain ⟨rfl, e149, e150, e151, e152⟩ := hp147
          have e149 : z143.toInt ≤ v148.toInt := e149
          have e150 : z146.toInt ≤ v148.toInt := e150
          have e151 : v148.toInt = z143.toInt ∨ v148.toInt = z146.toInt := e151
          have e152 : R_mp_deeper z143 z146 v148 := e152
          have hw : pw D A s.heap H locs [wdP cs h r g tf ta pf125 na126 ma127 wa103 cf ca ef ea xf xa] := hw
          have lv148 := Int32.le_toInt v148
          have uv148 := Int32.toInt_lt v148
          refine px_calli (pr := [wdP cs h r g tf ta pf125 na126 ma127 wa103 cf ca ef ea xf xa]) (px_runS (As := [.int z142, .int v148]) (rest := [.int 1, .int v129, .ref (r 23)]) S (c_mp_deeper l D cs  z142 v148   _) hT (pr := [wdP cs h r g tf ta pf125 na126 ma127 wa103 cf ca ef ea xf xa]) (pcs := []) hw px_X.tt m12_49 m12_47 m12_48 m1_21 q_Mpg_deeper ⟨show 0 + 1 ≤ (8 * lv + 19) from (by first | exact oz_11aebc2b0b | omega), show 8 + (2 + 11) + 0 ≤ (220 * lv + 690) from (by first | exact oz_a5526f1e7e | omega)⟩ hl.1 rfl (Nat.le_of_ble_eq_true rfl) d_Mpg_conditional_134 ⟨Nat.le_of_ble_eq_true rfl, Nat.le_of_ble_eq_true rfl⟩) hw hA (fun v154 p153 H locs hp153 hw => ?_)
          obtain ⟨rfl, e155, e156, e157, e158⟩ := hp153
          have e155 : z142.toInt ≤ v154.toInt := e155
          have e156 : v148.toInt ≤ v154.toInt := e156
          have e157 : v154.toInt = z142.toInt ∨ v154.toInt = v148.toInt := e157
          have e158 : R_mp_deeper z142 v148 v154 := e158
          have hw : pw D A s.heap H locs [wdP cs h r g tf ta pf125 na126 ma127 wa103 cf ca ef ea xf xa] := hw
          have lv154 := Int32.le_toInt v154
          have uv154 := Int32.toInt_lt v154
          refine lv_iadd S.x S.b d_Mpg_conditional_137 ?_
          refine lv_topi (fun z159 ez159 => ?_)
          have tz159 : z159.toInt = ((1 : Int) + v154.toInt + 2147483648) % 4294967296 - 2147483648 := by rw [ez159]; exact i_add 1 v154
          have lz159 := Int32.le_toInt z159
          have uz159 := Int32.toInt_lt z159
          try replace tz159 : z159.toInt = (1 : Int) + v154.toInt := by omega
          refine px_iast S hT hw 0 19 (n := 2100) (f := (na126 23)) (x := v129) (y := z159) rfl gp_23 (vp_in_iff.mpr (by constructor <;> omega)) d_Mpg_conditional_138 (w' := wdP cs h r g tf ta pf125 (va_up na126 23 (upd (na126 23) v129.toNatClampNeg z159)) ma127 wa103 cf ca ef ea xf xa) (ps' := [wdP cs h r g tf ta pf125 (va_up na126 23 (upd (na126 23) v129.toNatClampNeg z159)) ma127 wa103 cf ca ef ea xf xa]) sp_23 rfl (fun H locs hw => ?_)
          refine lv_aload_n S.x S.b d_Mpg_conditional_139 rfl (lv_at hl 6 rfl) ?_
          refine px_get S k_Mpg hT hw 0 0 16 (v := .ref (r 16)) rfl rfl rfl (by decide) m10_0 d_Mpg_conditional_140 ?_
          refine lv_iload S.x S.b d_Mpg_conditional_143 (lv_at hl 0 rfl) ?_
          refine lv_iload_n S.x S.b d_Mpg_conditional_145 rfl (lv_at hl 5 rfl) ?_
          refine px_iast S hT hw 0 12 (n := 2100) (f := ((va_up na126 23 (upd (na126 23) v129.toNatClampNeg z159)) 16)) (x := v129) (y := (pf 11)) rfl gp_16 (vp_in_iff.mpr (by constructor <;> omega)) d_Mpg_conditional_146 (w' := wdP cs h r g tf ta pf125 (va_up (va_up na126 23 (upd (na126 23) v129.toNatClampNeg z159)) 16 (upd ((va_up na126 23 (upd (na126 23) v129.toNatClampNeg z159)) 16) v129.toNatClampNeg (pf 11))) ma127 wa103 cf ca ef ea xf xa) (ps' := [wdP cs h r g tf ta pf125 (va_up (va_up na126 23 (upd (na126 23) v129.toNatClampNeg z159)) 16 (upd ((va_up na126 23 (upd (na126 23) v129.toNatClampNeg z159)) 16) v129.toNatClampNeg (pf 11))) ma127 wa103 cf ca ef ea xf xa]) sp_16 rfl (fun H locs hw => ?_)
          refine lv_aload_n S.x S.b d_Mpg_conditional_147 rfl (lv_at hl 6 rfl) ?_
          refine px_get S k_Mpg hT hw 0 0 17 (v := .ref (r 17)) rfl rfl rfl (by decide) m10_1 d_Mpg_conditional_148 ?_
          refine lv_iload S.x S.b d_Mpg_conditional_151 (lv_at hl 0 rfl) ?_
          refine lv_iload_n S.x S.b d_Mpg_conditional_153 rfl (lv_at hl 4 rfl) ?_
          refine lv_if_ge (tgt := 163) S.x S.b d_Mpg_conditional_154 (by decide) (fun c160 => ?_) (fun c160 => ?_)
          · have nc160 : (0 : Int) ≤ v10.toInt := (i_le (x := 0) (y := v10)).mp c160
            refine lv_iload_n S.x S.b d_Mpg_conditional_163 rfl (lv_at hl 4 rfl) ?_
            refine px_iast S hT hw 0 13 (n := 2100) (f := ((va_up (va_up na126 23 (upd (na126 23) v129.toNatClampNeg z159)) 16 (upd ((va_up na126 23 (upd (na126 23) v129.toNatClampNeg z159)) 16) v129.toNatClampNeg (pf 11))) 17)) (x := v129) (y := v10) rfl gp_17 (vp_in_iff.mpr (by constructor <;> omega)) d_Mpg_conditional_164 (w' := wdP cs h r g tf ta pf125 (va_up (va_up (va_up na126 23 (upd (na126 23) v129.toNatClampNeg z159)) 16 (upd ((va_up na126 23 (upd (na126 23) v129.toNatClampNeg z159)) 16) v129.toNatClampNeg (pf 11))) 17 (upd ((va_up (va_up na126 23 (upd (na126 23) v129.toNatClampNeg z159)) 16 (upd ((va_up na126 23 (upd (na126 23) v129.toNatClampNeg z159)) 16) v129.toNatClampNeg (pf 11))) 17) v129.toNatClampNeg v10)) ma127 wa103 cf ca ef ea xf xa) (ps' := [wdP cs h r g tf ta pf125 (va_up (va_up (va_up na126 23 (upd (na126 23) v129.toNatClampNeg z159)) 16 (upd ((va_up na126 23 (upd (na126 23) v129.toNatClampNeg z159)) 16) v129.toNatClampNeg (pf 11))) 17 (upd ((va_up (va_up na126 23 (upd (na126 23) v129.toNatClampNeg z159)) 16 (upd ((va_up na126 23 (upd (na126 23) v129.toNatClampNeg z159)) 16) v129.toNatClampNeg (pf 11))) 17) v129.toNatClampNeg v10)) ma127 wa103 cf ca ef ea xf xa]) sp_17 rfl (fun H locs hw => ?_)
            refine lv_aload_n S.x S.b d_Mpg_conditional_165 rfl (lv_at hl 6 rfl) ?_
            refine px_get S k_Mpg hT hw 0 0 18 (v := .ref (r 18)) rfl rfl rfl (by decide) m10_3 d_Mpg_conditional_166 ?_
            refine lv_iload S.x S.b d_Mpg_conditional_169 (lv_at hl 0 rfl) ?_
            refine lv_iload S.x S.b d_Mpg_conditional_171 (lv_at hl 2 rfl) ?_
            refine px_iast S hT hw 0 14 (n := 2100) (f := (ma127 18)) (x := v129) (y := v65) rfl gp_18 (vp_in_iff.mpr (by constructor <;> omega)) d_Mpg_conditional_173 (w' := wdP cs h r g tf ta pf125 (va_up (va_up (va_up na126 23 (upd (na126 23) v129.toNatClampNeg z159)) 16 (upd ((va_up na126 23 (upd (na126 23) v129.toNatClampNeg z159)) 16) v129.toNatClampNeg (pf 11))) 17 (upd ((va_up (va_up na126 23 (upd (na126 23) v129.toNatClampNeg z159)) 16 (upd ((va_up na126 23 (upd (na126 23) v129.toNatClampNeg z159)) 16) v129.toNatClampNeg (pf 11))) 17) v129.toNatClampNeg v10)) (va_up ma127 18 (upd (ma127 18) v129.toNatClampNeg v65)) wa103 cf ca ef ea xf xa) (ps' := [wdP cs h r g tf ta pf125 (va_up (va_up (va_up na126 23 (upd (na126 23) v129.toNatClampNeg z159)) 16 (upd ((va_up na126 23 (upd (na126 23) v129.toNatClampNeg z159)) 16) v129.toNatClampNeg (pf 11))) 17 (upd ((va_up (va_up na126 23 (upd (na126 23) v129.toNatClampNeg z159)) 16 (upd ((va_up na126 23 (upd (na126 23) v129.toNatClampNeg z159)) 16) v129.toNatClampNeg (pf 11))) 17) v129.toNatClampNeg v10)) (va_up ma127 18 (upd (ma127 18) v129.toNatClampNeg v65)) wa103 cf ca ef ea xf xa]) sp_18 rfl (fun H locs hw => ?_)
            refine lv_aload_n S.x S.b d_Mpg_conditional_174 rfl (lv_at hl 6 rfl) ?_
            refine px_get S k_Mpg hT hw 0 0 19 (v := .ref (r 19)) rfl rfl rfl (by decide) m10_5 d_Mpg_conditional_175 ?_
            refine lv_iload S.x S.b d_Mpg_conditional_178 (lv_at hl 0 rfl) ?_
            refine lv_iload S.x S.b d_Mpg_conditional_180 (lv_at hl 1 rfl) ?_
            refine lv_if_ge (tgt := 192) S.x S.b d_Mpg_conditional_182 (by decide) (fun c162 => ?_) (fun c162 => ?_)
            · have nc162 : (0 : Int) ≤ v105.toInt := (i_le (x := 0) (y := v105)).mp c162
              refine lv_iload S.x S.b d_Mpg_conditional_192 (lv_at hl 1 rfl) ?_
              refine px_iast S hT hw 0 15 (n := 2100) (f := ((va_up ma127 18 (upd (ma127 18) v129.toNatClampNeg v65)) 19)) (x := v129) (y := v105) rfl gp_19 (vp_in_iff.mpr (by constructor <;> omega)) d_Mpg_conditional_194 (w' := wdP cs h r g tf ta pf125 (va_up (va_up (va_up na126 23 (upd (na126 23) v129.toNatClampNeg z159)) 16 (upd ((va_up na126 23 (upd (na126 23) v129.toNatClampNeg z159)) 16) v129.toNatClampNeg (pf 11))) 17 (upd ((va_up (va_up na126 23 (upd (na126 23) v129.toNatClampNeg z159)) 16 (upd ((va_up na126 23 (upd (na126 23) v129.toNatClampNeg z159)) 16) v129.toNatClampNeg (pf 11))) 17) v129.toNatClampNeg v10)) (va_up (va_up ma127 18 (upd (ma127 18) v129.toNatClampNeg v65)) 19 (upd ((va_up ma127 18 (upd (ma127 18) v129.toNatClampNeg v65)) 19) v129.toNatClampNeg v105)) wa103 cf ca ef ea xf xa) (ps' := [wdP cs h r g tf ta pf125 (va_up (va_up (va_up na126 23 (upd (na126 23) v129.toNatClampNeg z159)) 16 (upd ((va_up na126 23 (upd (na126 23) v129.toNatClampNeg z159)) 16) v129.toNatClampNeg (pf 11))) 17 (upd ((va_up (va_up na126 23 (upd (na126 23) v129.toNatClampNeg z159)) 16 (upd ((va_up na126 23 (upd (na126 23) v129.toNatClampNeg z159)) 16) v129.toNatClampNeg (pf 11))) 17) v129.toNatClampNeg v10)) (va_up (va_up ma127 18 (upd (ma127 18) v129.toNatClampNeg v65)) 19 (upd ((va_up ma127 18 (upd (ma127 18) v129.toNatClampNeg v65)) 19) v129.toNatClampNeg v105)) wa103 cf ca ef ea xf xa]) sp_19 rfl (fun H locs hw => ?_)
              refine lv_iload S.x S.b d_Mpg_conditional_195 (lv_at hl 0 rfl) ?_
              exact th_iret (v := v129) S hr rfl hlk hAe hw (⟨pf125, (va_up (va_up (va_up na126 23 (upd (na126 23) v129.toNatClampNeg z159)) 16 (upd ((va_up na126 23 (upd (na126 23) v129.toNatClampNeg z159)) 16) v129.toNatClampNeg (pf 11))) 17 (upd ((va_up (va_up na126 23 (upd (na126 23) v129.toNatClampNeg z159)) 16 (upd ((va_up na126 23 (upd (na126 23) v129.toNatClampNeg z159)) 16) v129.toNatClampNeg (pf 11))) 17) v129.toNatClampNeg v10)), (va_up (va_up ma127 18 (upd (ma127 18) v129.toNatClampNeg v65)) 19 (upd ((va_up ma127 18 (upd (ma127 18) v129.toNatClampNeg v65)) 19) v129.toNatClampNeg v105)), wa103, rfl, (show (pf 11).toInt + 1 ≤ (pf125 11).toInt from by first | exact oz_a94dab7bd6 e11 e132 e45 e106 e66 e87 | omega), (show (pf125 11).toInt < (tf 6).toInt from by first | exact oz_5d2fbac15b e107 e132 | omega), (show (pf 13).toInt + 1 ≤ (pf125 13).toInt from by first | exact oz_51872157b0 e13 e131 e51 e108 e68 e91 | omega), (show (pf125 13).toInt - (pf 13).toInt ≤ (pf125 11).toInt - (pf 11).toInt from by first | exact oz_e4ee09b645 e14 e131 e132 e45 e51 e109 e69 e87 e91 | omega), (show bp ta (pf 11) + 1 ≤ bp ta (pf125 11) from by first | exact oz_5a9929be88 e15 qb1391 e47 e110 e48 e70 e89 | omega), (show (pf125 12).toInt = (pf 12).toInt from by first | exact oz_9e0ebf2891 e16 e133 e49 tz121 e71 e111 e90 | omega), (show (pf125 24).toInt = (pf 24).toInt from by first | exact oz_a783471c71 e17 e134 e52 e112 e72 e92 | omega), (show (pf125 25).toInt = (pf 25).toInt from by first | exact oz_a783471c71 e18 e135 e53 e113 e73 e93 | omega), (show (pf125 26).toInt = (pf 26).toInt from by first | exact oz_a783471c71 e19 e136 e54 e114 e74 e94 | omega), (show FrB (pf 13).toInt na ma (va_up (va_up (va_up na126 23 (upd (na126 23) v129.toNatClampNeg z159)) 16 (upd ((va_up na126 23 (upd (na126 23) v129.toNatClampNeg z159)) 16) v129.toNatClampNeg (pf 11))) 17 (upd ((va_up (va_up na126 23 (upd (na126 23) v129.toNatClampNeg z159)) 16 (upd ((va_up na126 23 (upd (na126 23) v129.toNatClampNeg z159)) 16) v129.toNatClampNeg (pf 11))) 17) v129.toNatClampNeg v10)) (va_up (va_up ma127 18 (upd (ma127 18) v129.toNatClampNeg v65)) 19 (upd ((va_up ma127 18 (upd (ma127 18) v129.toNatClampNeg v65)) 19) v129.toNatClampNeg v105)) from (FrB.um (FrB.um (FrB.un (FrB.un (FrB.un hfb (by omega) (by omega)) (by omega) (by omega)) (by omega) (by omega)) (by omega) (by omega)) (by omega) (by omega))), (show FrW (pf 26).toInt wa wa103 from hfw), (show ExD ta (tf 6).toInt (va_up (va_up (va_up na126 23 (upd (na126 23) v129.toNatClampNeg z159)) 16 (upd ((va_up na126 23 (upd (na126 23) v129.toNatClampNeg z159)) 16) v129.toNatClampNeg (pf 11))) 17 (upd ((va_up (va_up na126 23 (upd (na126 23) v129.toNatClampNeg z159)) 16 (upd ((va_up na126 23 (upd (na126 23) v129.toNatClampNeg z159)) 16) v129.toNatClampNeg (pf 11))) 17) v129.toNatClampNeg v10)) (va_up (va_up ma127 18 (upd (ma127 18) v129.toNatClampNeg v65)) 19 (upd ((va_up ma127 18 (upd (ma127 18) v129.toNatClampNeg v65)) 19) v129.toNatClampNeg v105)) v129 (pf 13).toInt (pf125 13).toInt (3 * (bp ta (pf125 11) - bp ta (pf 11))) (pf 12).toInt from (exd_of (ExR.le (exr_cond (ExR.le ht_v10 (Int.le_refl _) (by omega) (Int.le_refl _) (Int.le_refl _)) (ExR.le ht_v65 (Int.le_refl _) (by omega) (Int.le_refl _) (by omega)) ht_v105 (by omega) (by omega) (fun x hx => ⟨fun j => by rw [up_far hx, up_far hx, up_far hx], fun j => by rw [up_far hx, up_far hx]⟩) (by rw [va_up_n (by decide), va_up_n (by decide), va_up_n (by decide), hnk_v129.1]; rfl) (ndt_of (by rw [va_up_n (by decide), va_up_n (by decide), va_up_n (by decide), hnk_v129.2.1]) (by omega) (by omega) (by omega)) (by rw [va_up_s, pk_us]) (by rw [va_up_n (by decide), va_up_s, pk_us]) (by rw [va_up_s, pk_us]) (by rw [dp_un (by decide), dp_un (by decide), dp_us]; refine ⟨?_, ?_, ?_⟩ <;> omega) (by rw [dp_un (by decide), dp_un (by decide), dp_us]; omega) ⟨(by rw [va_up_n (by decide), va_up_n (by decide), va_up_n (by decide), hnk_v129.2.2.1]; decide), (by rw [va_up_n (by decide), va_up_n (by decide), hnk_v129.2.2.2.2]; decide)⟩ (by omega)) (by omega) (by omega) (by omega) (Int.le_refl _)) (by omega))), (show FsI (tf 6).toInt (pf125 13).toInt (va_up (va_up (va_up na126 23 (upd (na126 23) v129.toNatClampNeg z159)) 16 (upd ((va_up na126 23 (upd (na126 23) v129.toNatClampNeg z159)) 16) v129.toNatClampNeg (pf 11))) 17 (upd ((va_up (va_up na126 23 (upd (na126 23) v129.toNatClampNeg z159)) 16 (upd ((va_up na126 23 (upd (na126 23) v129.toNatClampNeg z159)) 16) v129.toNatClampNeg (pf 11))) 17) v129.toNatClampNeg v10)) from (FsI.le (FsI.un (FsI.us (FsI.un hfs (by decide)) (by omega) (by omega)) (by decide)) (by omega))), (show R_mp_conditional (RL_mp_expression lv) (RL_mp_conditional lv) ta pf na ma wa pf125 (va_up (va_up (va_up na126 23 (upd (na126 23) v129.toNatClampNeg z159)) 16 (upd ((va_up na126 23 (upd (na126 23) v129.toNatClampNeg z159)) 16) v129.toNatClampNeg (pf 11))) 17 (upd ((va_up (va_up na126 23 (upd (na126 23) v129.toNatClampNeg z159)) 16 (upd ((va_up na126 23 (upd (na126 23) v129.toNatClampNeg z159)) 16) v129.toNatClampNeg (pf 11))) 17) v129.toNatClampNeg v10)) (va_up (va_up ma127 18 (upd (ma127 18) v129.toNatClampNeg v65)) 19 (upd ((va_up ma127 18 (upd (ma127 18) v129.toNatClampNeg v65)) 19) v129.toNatClampNeg v105)) wa103 v129 0 from (Or.inl (Or.inr ⟨pf5, na6, ma7, wa8, v10, e24, v29, e32, Or.inl ⟨nc33, Or.inl ⟨nc35, Or.inr ⟨e40, Or.inr ⟨pf42, e55, Or.inr ⟨pf60, na61, ma62, wa63, v65, e79L, Or.inr ⟨pf84, e95, Or.inr ⟨pf100, na101, ma102, wa103, v105, e119L, z121, ez121, pf125, na126, ma127, v129, e138, nc140, z142, ez142, z143, ez143, Or.inl ⟨nc144, z146, ez146, v148, e152, v154, e158, z159, ez159, nc160, nc162, rfl, rfl, rfl, rfl, rfl, rfl⟩⟩⟩⟩⟩⟩⟩⟩⟩)))⟩) d_Mpg_conditional_197
            · have nc162 : ¬ (0 : Int) ≤ v105.toInt := mt (i_le (x := 0) (y := v105)).mpr c162
              exfalso
              omega
          · have nc160 : ¬ (0 : Int) ≤ v10.toInt := mt (i_le (x := 0) (y := v10)).mpr c160
            exfalso
            omega
        · have nc144 : ¬ (0 : Int) ≤ v105.toInt := mt (i_le (x := 0) (y := v105)).mpr c144
          refine lv_iconst (v := (-1)) S.x S.b d_Mpg_conditional_121 (by decide) ?_
          refine lv_iload S.x S.b d_Mpg_conditional_122 (lv_at hl 1 rfl) ?_
          refine lv_isub S.x S.b d_Mpg_conditional_124 ?_
          refine lv_topi (fun z164 ez164 => ?_)
          have tz164 : z164.toInt = ((-1 : Int) - v105.toInt + 2147483648) % 4294967296 - 2147483648 := by rw [ez164]; exact i_sub (-1) v105
          have lz164 := Int32.le_toInt z164
          have uz164 := Int32.toInt_lt z164
          try replace tz164 : z164.toInt = (-1 : Int) - v105.toInt := by omega
          have ht_z164 := hxd_v105.neg (z := z164) (by omega) (by omega); have hn_ht_z164 := ht_z164.num
          refine lv_goto (tgt := 130) S.x S.b d_Mpg_conditional_125 (by decide) ?_
          refine px_iald S hT hw 0 19 (n := 2100) (f := (na126 23)) rfl gp_23 (x := z164) (vp_in_iff.mpr (by first | exact oz_5aca869617 tz164 nc144 hnx_v105.2 e109 e87 e91 e107 g2 e69 g6 e14 e45 e51 | (constructor <;> omega))) d_Mpg_conditional_130 ?_
          refine lv_topi (fun z165 ez165 => ?_)
          have lz165 := Int32.le_toInt z165
          have uz165 := Int32.toInt_lt z165
          have rz165 : z165.toInt = dp na126 z164 := by rw [ez165]; rfl
          refine px_calli (pr := [wdP cs h r g tf ta pf125 na126 ma127 wa103 cf ca ef ea xf xa]) (px_runS (As := [.int z143, .int z165]) (rest := [.int z142, .int 1, .int v129, .ref (r 23)]) S (c_mp_deeper l D cs  z143 z165   _) hT (pr := [wdP cs h r g tf ta pf125 na126 ma127 wa103 cf ca ef ea xf xa]) (pcs := []) hw px_X.tt m12_49 m12_47 m12_48 m1_21 q_Mpg_deeper ⟨show 0 + 1 ≤ (8 * lv + 19) from (by first | exact oz_11aebc2b0b | omega), show 8 + (2 + 11) + 0 ≤ (220 * lv + 690) from (by first | exact oz_a5526f1e7e | omega)⟩ hl.1 rfl (Nat.le_of_ble_eq_true rfl) d_Mpg_conditional_131 ⟨Nat.le_of_ble_eq_true rfl, Nat.le_of_ble_eq_true rfl⟩) hw hA (fun v167 p166 H locs hp166 hw => ?_)
          obtain ⟨rfl, e168, e169, e170, e171⟩ := hp166
          have e168 : z143.toInt ≤ v167.toInt := e168
          have e169 : z165.toInt ≤ v167.toInt := e169
          have e170 : v167.toInt = z143.toInt ∨ v167.toInt = z165.toInt := e170
          have e171 : R_mp_deeper z143 z165 v167 := e171
          have hw : pw D A s.heap H locs [wdP cs h r g tf ta pf125 na126 ma127 wa103 cf ca ef ea xf xa] := hw
          have lv167 := Int32.le_toInt v167
          have uv167 := Int32.toInt_lt v167
          refine px_calli (pr := [wdP cs h r g tf ta pf125 na126 ma127 wa103 cf ca ef ea xf xa]) (px_runS (As := [.int z142, .int v167]) (rest := [.int 1, .int v129, .ref (r 23)]) S (c_mp_deeper l D cs  z142 v167   _) hT (pr := [wdP cs h r g tf ta pf125 na126 ma127 wa103 cf ca ef ea xf xa]) (pcs := []) hw px_X.tt m12_49 m12_47 m12_48 m1_21 q_Mpg_deeper ⟨show 0 + 1 ≤ (8 * lv + 19) from (by first | exact oz_11aebc2b0b | omega), show 8 + (2 + 11) + 0 ≤ (220 * lv + 690) from (by first | exact oz_a5526f1e7e | omega)⟩ hl.1 rfl (Nat.le_of_ble_eq_true rfl) d_Mpg_conditional_134 ⟨Nat.le_of_ble_eq_true rfl, Nat.le_of_ble_eq_true rfl⟩) hw hA (fun v173 p172 H locs hp172 hw => ?_)
          obtain ⟨rfl, e174, e175, e176, e177⟩ := hp172
          have e174 : z142.toInt ≤ v173.toInt := e174
          have e175 : v167.toInt ≤ v173.toInt := e175
          have e176 : v173.toInt = z142.toInt ∨ v173.toInt = v167.toInt := e176
          have e177 : R_mp_deeper z142 v167 v173 := e177
          have hw : pw D A s.heap H locs [wdP cs h r g tf ta pf125 na126 ma127 wa103 cf ca ef ea xf xa] := hw
          have lv173 := Int32.le_toInt v173
          have uv173 := Int32.toInt_lt v173
          refine lv_iadd S.x S.b d_Mpg_conditional_137 ?_
          refine lv_topi (fun z178 ez178 => ?_)
          have tz178 : z178.toInt = ((1 : Int) + v173.toInt + 2147483648) % 4294967296 - 2147483648 := by rw [ez178]; exact i_add 1 v173
          have lz178 := Int32.le_toInt z178
          have uz178 := Int32.toInt_lt z178
          try replace tz178 : z178.toInt = (1 : Int) + v173.toInt := by omega
          refine px_iast S hT hw 0 19 (n := 2100) (f := (na126 23)) (x := v129) (y := z178) rfl gp_23 (vp_in_iff.mpr (by constructor <;> omega)) d_Mpg_conditional_138 (w' := wdP cs h r g tf ta pf125 (va_up na126 23 (upd (na126 23) v129.toNatClampNeg z178)) ma127 wa103 cf ca ef ea xf xa) (ps' := [wdP cs h r g tf ta pf125 (va_up na126 23 (upd (na126 23) v129.toNatClampNeg z178)) ma127 wa103 cf ca ef ea xf xa]) sp_23 rfl (fun H locs hw => ?_)
          refine lv_aload_n S.x S.b d_Mpg_conditional_139 rfl (lv_at hl 6 rfl) ?_
          refine px_get S k_Mpg hT hw 0 0 16 (v := .ref (r 16)) rfl rfl rfl (by decide) m10_0 d_Mpg_conditional_140 ?_
          refine lv_iload S.x S.b d_Mpg_conditional_143 (lv_at hl 0 rfl) ?_
          refine lv_iload_n S.x S.b d_Mpg_conditional_145 rfl (lv_at hl 5 rfl) ?_
          refine px_iast S hT hw 0 12 (n := 2100) (f := ((va_up na126 23 (upd (na126 23) v129.toNatClampNeg z178)) 16)) (x := v129) (y := (pf 11)) rfl gp_16 (vp_in_iff.mpr (by constructor <;> omega)) d_Mpg_conditional_146 (w' := wdP cs h r g tf ta pf125 (va_up (va_up na126 23 (upd (na126 23) v129.toNatClampNeg z178)) 16 (upd ((va_up na126 23 (upd (na126 23) v129.toNatClampNeg z178)) 16) v129.toNatClampNeg (pf 11))) ma127 wa103 cf ca ef ea xf xa) (ps' := [wdP cs h r g tf ta pf125 (va_up (va_up na126 23 (upd (na126 23) v129.toNatClampNeg z178)) 16 (upd ((va_up na126 23 (upd (na126 23) v129.toNatClampNeg z178)) 16) v129.toNatClampNeg (pf 11))) ma127 wa103 cf ca ef ea xf xa]) sp_16 rfl (fun H locs hw => ?_)
          refine lv_aload_n S.x S.b d_Mpg_conditional_147 rfl (lv_at hl 6 rfl) ?_
          refine px_get S k_Mpg hT hw 0 0 17 (v := .ref (r 17)) rfl rfl rfl (by decide) m10_1 d_Mpg_conditional_148 ?_
          refine lv_iload S.x S.b d_Mpg_conditional_151 (lv_at hl 0 rfl) ?_
          refine lv_iload_n S.x S.b d_Mpg_conditional_153 rfl (lv_at hl 4 rfl) ?_
          refine lv_if_ge (tgt := 163) S.x S.b d_Mpg_conditional_154 (by decide) (fun c179 => ?_) (fun c179 => ?_)
          · have nc179 : (0 : Int) ≤ v10.toInt := (i_le (x := 0) (y := v10)).mp c179
            refine lv_iload_n S.x S.b d_Mpg_conditional_163 rfl (lv_at hl 4 rfl) ?_
            refine px_iast S hT hw 0 13 (n := 2100) (f := ((va_up (va_up na126 23 (upd (na126 23) v129.toNatClampNeg z178)) 16 (upd ((va_up na126 23 (upd (na126 23) v129.toNatClampNeg z178)) 16) v129.toNatClampNeg (pf 11))) 17)) (x := v129) (y := v10) rfl gp_17 (vp_in_iff.mpr (by constructor <;> omega)) d_Mpg_conditional_164 (w' := wdP cs h r g tf ta pf125 (va_up (va_up (va_up na126 23 (upd (na126 23) v129.toNatClampNeg z178)) 16 (upd ((va_up na126 23 (upd (na126 23) v129.toNatClampNeg z178)) 16) v129.toNatClampNeg (pf 11))) 17 (upd ((va_up (va_up na126 23 (upd (na126 23) v129.toNatClampNeg z178)) 16 (upd ((va_up na126 23 (upd (na126 23) v129.toNatClampNeg z178)) 16) v129.toNatClampNeg (pf 11))) 17) v129.toNatClampNeg v10)) ma127 wa103 cf ca ef ea xf xa) (ps' := [wdP cs h r g tf ta pf125 (va_up (va_up (va_up na126 23 (upd (na126 23) v129.toNatClampNeg z178)) 16 (upd ((va_up na126 23 (upd (na126 23) v129.toNatClampNeg z178)) 16) v129.toNatClampNeg (pf 11))) 17 (upd ((va_up (va_up na126 23 (upd (na126 23) v129.toNatClampNeg z178)) 16 (upd ((va_up na126 23 (upd (na126 23) v129.toNatClampNeg z178)) 16) v129.toNatClampNeg (pf 11))) 17) v129.toNatClampNeg v10)) ma127 wa103 cf ca ef ea xf xa]) sp_17 rfl (fun H locs hw => ?_)
            refine lv_aload_n S.x S.b d_Mpg_conditional_165 rfl (lv_at hl 6 rfl) ?_
            refine px_get S k_Mpg hT hw 0 0 18 (v := .ref (r 18)) rfl rfl rfl (by decide) m10_3 d_Mpg_conditional_166 ?_
            refine lv_iload S.x S.b d_Mpg_conditional_169 (lv_at hl 0 rfl) ?_
            refine lv_iload S.x S.b d_Mpg_conditional_171 (lv_at hl 2 rfl) ?_
            refine px_iast S hT hw 0 14 (n := 2100) (f := (ma127 18)) (x := v129) (y := v65) rfl gp_18 (vp_in_iff.mpr (by constructor <;> omega)) d_Mpg_conditional_173 (w' := wdP cs h r g tf ta pf125 (va_up (va_up (va_up na126 23 (upd (na126 23) v129.toNatClampNeg z178)) 16 (upd ((va_up na126 23 (upd (na126 23) v129.toNatClampNeg z178)) 16) v129.toNatClampNeg (pf 11))) 17 (upd ((va_up (va_up na126 23 (upd (na126 23) v129.toNatClampNeg z178)) 16 (upd ((va_up na126 23 (upd (na126 23) v129.toNatClampNeg z178)) 16) v129.toNatClampNeg (pf 11))) 17) v129.toNatClampNeg v10)) (va_up ma127 18 (upd (ma127 18) v129.toNatClampNeg v65)) wa103 cf ca ef ea xf xa) (ps' := [wdP cs h r g tf ta pf125 (va_up (va_up (va_up na126 23 (upd (na126 23) v129.toNatClampNeg z178)) 16 (upd ((va_up na126 23 (upd (na126 23) v129.toNatClampNeg z178)) 16) v129.toNatClampNeg (pf 11))) 17 (upd ((va_up (va_up na126 23 (upd (na126 23) v129.toNatClampNeg z178)) 16 (upd ((va_up na126 23 (upd (na126 23) v129.toNatClampNeg z178)) 16) v129.toNatClampNeg (pf 11))) 17) v129.toNatClampNeg v10)) (va_up ma127 18 (upd (ma127 18) v129.toNatClampNeg v65)) wa103 cf ca ef ea xf xa]) sp_18 rfl (fun H locs hw => ?_)
            refine lv_aload_n S.x S.b d_Mpg_conditional_174 rfl (lv_at hl 6 rfl) ?_
            refine px_get S k_Mpg hT hw 0 0 19 (v := .ref (r 19)) rfl rfl rfl (by decide) m10_5 d_Mpg_conditional_175 ?_
            refine lv_iload S.x S.b d_Mpg_conditional_178 (lv_at hl 0 rfl) ?_
            refine lv_iload S.x S.b d_Mpg_conditional_180 (lv_at hl 1 rfl) ?_
            refine lv_if_ge (tgt := 192) S.x S.b d_Mpg_conditional_182 (by decide) (fun c181 => ?_) (fun c181 => ?_)
            · have nc181 : (0 : Int) ≤ v105.toInt := (i_le (x := 0) (y := v105)).mp c181
              exfalso
              omega
            · have nc181 : ¬ (0 : Int) ≤ v105.toInt := mt (i_le (x := 0) (y := v105)).mpr c181
              refine lv_iconst (v := (-1)) S.x S.b d_Mpg_conditional_185 (by decide) ?_
              refine lv_iload S.x S.b d_Mpg_conditional_186 (lv_at hl 1 rfl) ?_
              refine lv_isub S.x S.b d_Mpg_conditional_188 ?_
              refine lv_topi (fun z183 ez183 => ?_)
              have tz183 : z183.toInt = ((-1 : Int) - v105.toInt + 2147483648) % 4294967296 - 2147483648 := by rw [ez183]; exact i_sub (-1) v105
              have lz183 := Int32.le_toInt z183
              have uz183 := Int32.toInt_lt z183
              try replace tz183 : z183.toInt = (-1 : Int) - v105.toInt := by omega
              have hsz183 : z164 = z183 := i_eq.mpr (by omega); subst hsz183
              refine lv_goto (tgt := 194) S.x S.b d_Mpg_conditional_189 (by decide) ?_
              refine px_iast S hT hw 0 15 (n := 2100) (f := ((va_up ma127 18 (upd (ma127 18) v129.toNatClampNeg v65)) 19)) (x := v129) (y := z164) rfl gp_19 (vp_in_iff.mpr (by constructor <;> omega)) d_Mpg_conditional_194 (w' := wdP cs h r g tf ta pf125 (va_up (va_up (va_up na126 23 (upd (na126 23) v129.toNatClampNeg z178)) 16 (upd ((va_up na126 23 (upd (na126 23) v129.toNatClampNeg z178)) 16) v129.toNatClampNeg (pf 11))) 17 (upd ((va_up (va_up na126 23 (upd (na126 23) v129.toNatClampNeg z178)) 16 (upd ((va_up na126 23 (upd (na126 23) v129.toNatClampNeg z178)) 16) v129.toNatClampNeg (pf 11))) 17) v129.toNatClampNeg v10)) (va_up (va_up ma127 18 (upd (ma127 18) v129.toNatClampNeg v65)) 19 (upd ((va_up ma127 18 (upd (ma127 18) v129.toNatClampNeg v65)) 19) v129.toNatClampNeg z164)) wa103 cf ca ef ea xf xa) (ps' := [wdP cs h r g tf ta pf125 (va_up (va_up (va_up na126 23 (upd (na126 23) v129.toNatClampNeg z178)) 16 (upd ((va_up na126 23 (upd (na126 23) v129.toNatClampNeg z178)) 16) v129.toNatClampNeg (pf 11))) 17 (upd ((va_up (va_up na126 23 (upd (na126 23) v129.toNatClampNeg z178)) 16 (upd ((va_up na126 23 (upd (na126 23) v129.toNatClampNeg z178)) 16) v129.toNatClampNeg (pf 11))) 17) v129.toNatClampNeg v10)) (va_up (va_up ma127 18 (upd (ma127 18) v129.toNatClampNeg v65)) 19 (upd ((va_up ma127 18 (upd (ma127 18) v129.toNatClampNeg v65)) 19) v129.toNatClampNeg z164)) wa103 cf ca ef ea xf xa]) sp_19 rfl (fun H locs hw => ?_)
              refine lv_iload S.x S.b d_Mpg_conditional_195 (lv_at hl 0 rfl) ?_
              exact th_iret (v := v129) S hr rfl hlk hAe hw (⟨pf125, (va_up (va_up (va_up na126 23 (upd (na126 23) v129.toNatClampNeg z178)) 16 (upd ((va_up na126 23 (upd (na126 23) v129.toNatClampNeg z178)) 16) v129.toNatClampNeg (pf 11))) 17 (upd ((va_up (va_up na126 23 (upd (na126 23) v129.toNatClampNeg z178)) 16 (upd ((va_up na126 23 (upd (na126 23) v129.toNatClampNeg z178)) 16) v129.toNatClampNeg (pf 11))) 17) v129.toNatClampNeg v10)), (va_up (va_up ma127 18 (upd (ma127 18) v129.toNatClampNeg v65)) 19 (upd ((va_up ma127 18 (upd (ma127 18) v129.toNatClampNeg v65)) 19) v129.toNatClampNeg z164)), wa103, rfl, (show (pf 11).toInt + 1 ≤ (pf125 11).toInt from by first | exact oz_a94dab7bd6 e11 e132 e45 e106 e66 e87 | omega), (show (pf125 11).toInt < (tf 6).toInt from by first | exact oz_5d2fbac15b e107 e132 | omega), (show (pf 13).toInt + 1 ≤ (pf125 13).toInt from by first | exact oz_51872157b0 e13 e131 e51 e108 e68 e91 | omega), (show (pf125 13).toInt - (pf 13).toInt ≤ (pf125 11).toInt - (pf 11).toInt from by first | exact oz_e4ee09b645 e14 e131 e132 e45 e51 e109 e69 e87 e91 | omega), (show bp ta (pf 11) + 1 ≤ bp ta (pf125 11) from by first | exact oz_5a9929be88 e15 qb1391 e47 e110 e48 e70 e89 | omega), (show (pf125 12).toInt = (pf 12).toInt from by first | exact oz_9e0ebf2891 e16 e133 e49 tz121 e71 e111 e90 | omega), (show (pf125 24).toInt = (pf 24).toInt from by first | exact oz_a783471c71 e17 e134 e52 e112 e72 e92 | omega), (show (pf125 25).toInt = (pf 25).toInt from by first | exact oz_a783471c71 e18 e135 e53 e113 e73 e93 | omega), (show (pf125 26).toInt = (pf 26).toInt from by first | exact oz_a783471c71 e19 e136 e54 e114 e74 e94 | omega), (show FrB (pf 13).toInt na ma (va_up (va_up (va_up na126 23 (upd (na126 23) v129.toNatClampNeg z178)) 16 (upd ((va_up na126 23 (upd (na126 23) v129.toNatClampNeg z178)) 16) v129.toNatClampNeg (pf 11))) 17 (upd ((va_up (va_up na126 23 (upd (na126 23) v129.toNatClampNeg z178)) 16 (upd ((va_up na126 23 (upd (na126 23) v129.toNatClampNeg z178)) 16) v129.toNatClampNeg (pf 11))) 17) v129.toNatClampNeg v10)) (va_up (va_up ma127 18 (upd (ma127 18) v129.toNatClampNeg v65)) 19 (upd ((va_up ma127 18 (upd (ma127 18) v129.toNatClampNeg v65)) 19) v129.toNatClampNeg z164)) from (FrB.um (FrB.um (FrB.un (FrB.un (FrB.un hfb (by omega) (by omega)) (by omega) (by omega)) (by omega) (by omega)) (by omega) (by omega)) (by omega) (by omega))), (show FrW (pf 26).toInt wa wa103 from hfw), (show ExD ta (tf 6).toInt (va_up (va_up (va_up na126 23 (upd (na126 23) v129.toNatClampNeg z178)) 16 (upd ((va_up na126 23 (upd (na126 23) v129.toNatClampNeg z178)) 16) v129.toNatClampNeg (pf 11))) 17 (upd ((va_up (va_up na126 23 (upd (na126 23) v129.toNatClampNeg z178)) 16 (upd ((va_up na126 23 (upd (na126 23) v129.toNatClampNeg z178)) 16) v129.toNatClampNeg (pf 11))) 17) v129.toNatClampNeg v10)) (va_up (va_up ma127 18 (upd (ma127 18) v129.toNatClampNeg v65)) 19 (upd ((va_up ma127 18 (upd (ma127 18) v129.toNatClampNeg v65)) 19) v129.toNatClampNeg z164)) v129 (pf 13).toInt (pf125 13).toInt (3 * (bp ta (pf125 11) - bp ta (pf 11))) (pf 12).toInt from (exd_of (ExR.le (exr_cond (ExR.le ht_v10 (Int.le_refl _) (by omega) (Int.le_refl _) (Int.le_refl _)) (ExR.le ht_v65 (Int.le_refl _) (by omega) (Int.le_refl _) (by omega)) ht_z164 (by omega) (by omega) (fun x hx => ⟨fun j => by rw [up_far hx, up_far hx, up_far hx], fun j => by rw [up_far hx, up_far hx]⟩) (by rw [va_up_n (by decide), va_up_n (by decide), va_up_n (by decide), hnk_v129.1]; rfl) (ndt_of (by rw [va_up_n (by decide), va_up_n (by decide), va_up_n (by decide), hnk_v129.2.1]) (by omega) (by omega) (by omega)) (by rw [va_up_s, pk_us]) (by rw [va_up_n (by decide), va_up_s, pk_us]) (by rw [va_up_s, pk_us]) (by rw [dp_un (by decide), dp_un (by decide), dp_us]; refine ⟨?_, ?_, ?_⟩ <;> omega) (by rw [dp_un (by decide), dp_un (by decide), dp_us]; omega) ⟨(by rw [va_up_n (by decide), va_up_n (by decide), va_up_n (by decide), hnk_v129.2.2.1]; decide), (by rw [va_up_n (by decide), va_up_n (by decide), hnk_v129.2.2.2.2]; decide)⟩ (by omega)) (by omega) (by omega) (by omega) (Int.le_refl _)) (by omega))), (show FsI (tf 6).toInt (pf125 13).toInt (va_up (va_up (va_up na126 23 (upd (na126 23) v129.toNatClampNeg z178)) 16 (upd ((va_up na126 23 (upd (na126 23) v129.toNatClampNeg z178)) 16) v129.toNatClampNeg (pf 11))) 17 (upd ((va_up (va_up na126 23 (upd (na126 23) v129.toNatClampNeg z178)) 16 (upd ((va_up na126 23 (upd (na126 23) v129.toNatClampNeg z178)) 16) v129.toNatClampNeg (pf 11))) 17) v129.toNatClampNeg v10)) from (FsI.le (FsI.un (FsI.us (FsI.un hfs (by decide)) (by omega) (by omega)) (by decide)) (by omega))), (show R_mp_conditional (RL_mp_expression lv) (RL_mp_conditional lv) ta pf na ma wa pf125 (va_up (va_up (va_up na126 23 (upd (na126 23) v129.toNatClampNeg z178)) 16 (upd ((va_up na126 23 (upd (na126 23) v129.toNatClampNeg z178)) 16) v129.toNatClampNeg (pf 11))) 17 (upd ((va_up (va_up na126 23 (upd (na126 23) v129.toNatClampNeg z178)) 16 (upd ((va_up na126 23 (upd (na126 23) v129.toNatClampNeg z178)) 16) v129.toNatClampNeg (pf 11))) 17) v129.toNatClampNeg v10)) (va_up (va_up ma127 18 (upd (ma127 18) v129.toNatClampNeg v65)) 19 (upd ((va_up ma127 18 (upd (ma127 18) v129.toNatClampNeg v65)) 19) v129.toNatClampNeg z164)) wa103 v129 0 from (Or.inl (Or.inr ⟨pf5, na6, ma7, wa8, v10, e24, v29, e32, Or.inl ⟨nc33, Or.inl ⟨nc35, Or.inr ⟨e40, Or.inr ⟨pf42, e55, Or.inr ⟨pf60, na61, ma62, wa63, v65, e79L, Or.inr ⟨pf84, e95, Or.inr ⟨pf100, na101, ma102, wa103, v105, e119L, z121, ez121, pf125, na126, ma127, v129, e138, nc140, z142, ez142, z143, ez143, Or.inr ⟨nc144, z164, ez164, z165, ez165, v167, e171, v173, e177, z178, ez178, nc179, nc181, z164, ez183, rfl, rfl, rfl, rfl, rfl, rfl⟩⟩⟩⟩⟩⟩⟩⟩⟩)))⟩) d_Mpg_conditional_197
          · have nc179 : ¬ (0 : Int) ≤ v10.toInt := mt (i_le (x := 0) (y := v10)).mpr c179
            exfalso
            omega
      · have nc140 : ¬ (0 : Int) ≤ v10.toInt := mt (i_le (x := 0) (y := v10)).mpr c140
        exfalso
        omega
    · have nc35 : ¬ (0 : Int) ≤ v10.toInt := mt (i_le (x := 0) (y := v10)).mpr c35
      refine lv_iconst (v := (-1)) S.x S.b d_Mpg_conditional_31 (by decide) ?_
      refine lv_iload_n S.x S.b d_Mpg_conditional_32 rfl (lv_at hl 1 rfl) ?_
      refine lv_isub S.x S.b d_Mpg_conditional_33 ?_
      refine lv_topi (fun z184 ez184 => ?_)
      have tz184 : z184.toInt = ((-1 : Int) - v10.toInt + 2147483648) % 4294967296 - 2147483648 := by rw [ez184]; exact i_sub (-1) v10
      have lz184 := Int32.le_toInt z184
      have uz184 := Int32.toInt_lt z184
      try replace tz184 : z184.toInt = (-1 : Int) - v10.toInt := by omega
      have ht_z184 := hxd_v10.neg (z := z184) (by omega) (by omega); have hn_ht_z184 := ht_z184.num
      refine lv_goto (tgt := 38) S.x S.b d_Mpg_conditional_34 (by decide) ?_
      refine th_callv (ps0 := [wdP cs h r g tf ta pf na ma wa cf ca ef ea xf xa]) (pr := []) (pcs := [wdP cs h r g tf ta pf5 na6 ma7 wa8 cf ca ef ea xf xa]) (As := [.int z184]) (rest := []) (c_mp_stands l D cs h r g tf ta pf5 na6 ma7 wa8 cf ca ef ea xf xa z184  (show 0 ≤ (pf5 11).toInt from by first | exact oz_06d7f15a5c e11 g0 | omega) (show (pf5 11).toInt < (tf 6).toInt from by first | exact e12 | omega) (show 0 ≤ z184.toInt from by first | exact oz_26151178c9 tz184 nc35 | omega) (show z184.toInt < 2100 from by first | exact oz_96c024f2ca tz184 hnx_v10.2 e14 g6 e12 g2 | omega) (show 0 ≤ dp na6 z184 from by omega) (show dp na6 z184 ≤ 1000 from by omega) (show 0 ≤ (pf5 12).toInt from by first | exact oz_f3ebed1ad0 e16 g3 | omega) (show (pf5 12).toInt ≤ 60 from by first | exact oz_a3db38fa3c e16 g4 | omega) hlf htk) S hT hw (oX_call (P := (fun A U H => (oN A U H) ∧ (oP A g U H))) (pr := []) (oG_and oG_N oG_P) hw hA ⟨hN, hP⟩) (px_recv hT hw 0 0 rfl rfl rfl) m12_46 m12_43 m12_45 ms_9_13 m1_21 q_Mpg_stands2 ⟨show 7 + 1 ≤ (8 * lv + 19) from (by first | exact oz_b5487fe559 | omega), show 8 + (2 + 11) + 150 ≤ (220 * lv + 690) from (by first | exact oz_de4190bbcc | omega)⟩ hl.1 rfl (Nat.le_of_ble_eq_true rfl) d_Mpg_conditional_38 ⟨Nat.le_of_ble_eq_true rfl, Nat.le_of_ble_eq_true rfl⟩ hne hlk hA hAe (fun o t h => Or.inr h) ?_ (fun p185 H locs hp185 hw => ?_)
      · exact fun p1 H1 locs1 hp hw => by obtain ⟨pq1, pq2, pq3, pq4, rfl, hq1, hq2, hu_pf, hu_na, hu_ma, hu_wa, hq3⟩ := hp; exact ⟨_, ⟨pq1, pq2, pq3, pq4, rfl, hq1, hq2, (Or.inl (Or.inr ⟨pf5, na6, ma7, wa8, v10, e24, v29, e32, Or.inl ⟨nc33, Or.inr ⟨nc35, z184, ez184, Or.inl ⟨hq3, hu_pf, hu_na, hu_ma, hu_wa, rfl, rfl⟩⟩⟩⟩))⟩, hw⟩
      obtain ⟨rfl, e187, e188⟩ := hp185
      have e187 : (pf5 12).toInt + dp na6 z184 < 60 := e187
      have e188 : R_mp_stands pf5 na6 z184 0 := e188
      have hw : pw D A s.heap H locs [wdP cs h r g tf ta pf5 na6 ma7 wa8 cf ca ef ea xf xa] := hw
      refine lv_aload_n S.x S.b d_Mpg_conditional_41 rfl (lv_at hl 3 rfl) ?_
      refine th_callv (ps0 := [wdP cs h r g tf ta pf na ma wa cf ca ef ea xf xa]) (pr := []) (pcs := [wdP cs h r g tf ta pf5 na6 ma7 wa8 cf ca ef ea xf xa]) (As := []) (rest := []) (c_mp_opens l D cs h r g tf ta na6 ma7 wa8 cf ca ef ea xf xa pf5   (show 0 ≤ (pf5 11).toInt from by first | exact oz_06d7f15a5c e11 g0 | omega) (show (pf5 11).toInt < (tf 6).toInt from by first | exact e12 | omega) (show (tf 6).toInt ≤ 2049 from by first | exact g2 | omega) (show (pf5 11).toInt + 1 < (tf 6).toInt from by omega) (show 0 ≤ (pf5 12).toInt from by first | exact oz_f3ebed1ad0 e16 g3 | omega) (show (pf5 12).toInt ≤ 60 from by first | exact oz_a3db38fa3c e16 g4 | omega) hlf htk) S hT hw (oX_call (P := (fun A U H => (oN A U H) ∧ (oP A g U H))) (pr := []) (oG_and oG_N oG_P) hw hA ⟨hN, hP⟩) (px_recv hT hw 0 0 rfl rfl rfl) m11_238 m11_235 m11_237 ms_9_1 m1_21 q_Mpg_opens ⟨show 7 + 1 ≤ (8 * lv + 19) from (by first | exact oz_b5487fe559 | omega), show 8 + (1 + 11) + 150 ≤ (220 * lv + 690) from (by first | exact oz_7fadf8ac0b | omega)⟩ hl.1 rfl (Nat.le_of_ble_eq_true rfl) d_Mpg_conditional_42 ⟨Nat.le_of_ble_eq_true rfl, Nat.le_of_ble_eq_true rfl⟩ hne hlk hA hAe (fun o t h => Or.inr h) ?_ (fun p191 H locs hp191 hw => ?_)
      · exact fun p1 H1 locs1 hp hw => by obtain ⟨pq1, pq2, pq3, pq4, rfl, hq1, hq2, hu_na, hu_ma, hu_wa, hq3⟩ := hp; exact ⟨_, ⟨pq1, pq2, pq3, pq4, rfl, hq1, hq2, (Or.inl (Or.inr ⟨pf5, na6, ma7, wa8, v10, e24, v29, e32, Or.inl ⟨nc33, Or.inr ⟨nc35, z184, ez184, Or.inr ⟨e188, Or.inl ⟨pq1, hq3, rfl, hu_na, hu_ma, hu_wa, rfl, rfl⟩⟩⟩⟩⟩))⟩, hw⟩
      obtain ⟨pf190, rfl, e193, e194, e195, e196, e197, e198, e199, e200, e201, e202, e203⟩ := hp191
      have e193 : (pf190 11).toInt = (pf5 11).toInt + 1 := e193
      have e194 : (pf190 11).toInt < (tf 6).toInt := e194
      have e195 : bp ta (pf5 11) + sz ta (pf5 11) ≤ bp ta (pf190 11) := e195
      have e196 : 1 ≤ sz ta (pf5 11) := e196
      have e197 : (pf190 12).toInt = (pf5 12).toInt + 1 := e197
      have e198 : (pf5 12).toInt < 60 := e198
      have e199 : (pf190 13).toInt = (pf5 13).toInt := e199
      have e200 : (pf190 24).toInt = (pf5 24).toInt := e200
      have e201 : (pf190 25).toInt = (pf5 25).toInt := e201
      have e202 : (pf190 26).toInt = (pf5 26).toInt := e202
      have e203 : R_mp_opens pf5 pf190 0 := e203
      have hw : pw D A s.heap H locs [wdP cs h r g tf ta pf190 na6 ma7 wa8 cf ca ef ea xf xa] := hw
      refine lv_aload_n S.x S.b d_Mpg_conditional_45 rfl (lv_at hl 3 rfl) ?_
      refine th_calli (ps0 := [wdP cs h r g tf ta pf na ma wa cf ca ef ea xf xa]) (pr := []) (pcs := [wdP cs h r g tf ta pf190 na6 ma7 wa8 cf ca ef ea xf xa]) (As := []) (rest := []) ((hE.go (by omega)).1 h r g tf ta cf ca ef ea xf xa pf190 na6 ma7 wa8   (show 0 ≤ (pf190 11).toInt from by first | exact oz_184ed96a99 e193 e11 g0 | omega) (show (pf190 11).toInt < (tf 6).toInt from by first | exact e194 | omega) (show (tf 6).toInt ≤ 2049 from by first | exact g2 | omega) (show 0 ≤ (pf190 12).toInt from by first | exact oz_87be06313f e197 e16 g8 g7 | omega) (show (pf190 12).toInt ≤ 60 from by first | exact oz_6710fd9021 e197 e198 | omega) (show 0 ≤ (pf190 13).toInt from by first | exact oz_bd8959faaf e199 hnx_v10.1 hnx_v10.2 | omega) (show (pf190 13).toInt ≤ (pf190 11).toInt + 20 from by first | exact oz_815a17a6fa e193 e199 e14 g6 | omega) (show 0 ≤ (pf190 26).toInt from by first | exact oz_e2fef14871 e202 e19 g7 | omega) (show (pf190 26).toInt ≤ (pf190 12).toInt from by first | exact oz_e919e29b70 e197 e202 e16 e19 g8 | omega) (show 61 ≤ (pf190 12).toInt + ((lv - 1 : Nat) : Int) from by omega) (show lv - 1 ≤ 61 from by omega) hlf htk (FsI.le (N' := (pf190 13).toInt) hfs (by omega))) S hT hw (oX_call (P := (fun A U H => (oN A U H) ∧ (oP A g U H))) (pr := []) (oG_and oG_N oG_P) hw hA ⟨hN, hP⟩) (px_recv hT hw 0 0 rfl rfl rfl) m12_38 m12_35 m12_37 ms_9_11 m1_21 q_Mpg_expression ⟨show (8 * (lv - 1) + 20) + 1 ≤ (8 * lv + 19) from by omega, show 8 + (7 + 11) + (220 * (lv - 1) + 720) ≤ (220 * lv + 690) from by omega⟩ hl.1 rfl (Nat.le_of_ble_eq_true rfl) d_Mpg_conditional_46 ⟨Nat.le_of_ble_eq_true rfl, Nat.le_of_ble_eq_true rfl⟩ hne hlk hA hAe (fun o t h => Or.inr h) ?_ (fun v213 p212 H locs hp212 hw => ?_)
      · exact fun p1 H1 locs1 hp hw => by obtain ⟨pq1, pq2, pq3, pq4, rfl, hq1, hq2, hq3⟩ := hp; exact ⟨_, ⟨pq1, pq2, pq3, pq4, rfl, hq1, hq2, (Or.inl (Or.inr ⟨pf5, na6, ma7, wa8, v10, e24, v29, e32, Or.inl ⟨nc33, Or.inr ⟨nc35, z184, ez184, Or.inr ⟨e188, Or.inr ⟨pf190, e203, Or.inl ⟨pq1, pq2, pq3, pq4, (up_RL_mp_expression (show 1 ≤ lv from by first | exact oz_6721671b0f g9 g4 | omega) ▸ hq3), rfl, rfl, rfl, rfl, rfl, rfl⟩⟩⟩⟩⟩⟩))⟩, hw⟩
      obtain ⟨pf208, na209, ma210, wa211, rfl, e214, e215, e216, e217, e218, e219, e220, e221, e222, e223, e224, e225, e226, e227⟩ := hp212
      have e214 : (pf190 11).toInt + 1 ≤ (pf208 11).toInt := e214
      have e215 : (pf208 11).toInt < (tf 6).toInt := e215
      have e216 : (pf190 13).toInt + 1 ≤ (pf208 13).toInt := e216
      have e217 : (pf208 13).toInt - (pf190 13).toInt ≤ (pf208 11).toInt - (pf190 11).toInt := e217
      have e218 : bp ta (pf190 11) + 1 ≤ bp ta (pf208 11) := e218
      have e219 : (pf208 12).toInt = (pf190 12).toInt := e219
      have e220 : (pf208 24).toInt = (pf190 24).toInt := e220
      have e221 : (pf208 25).toInt = (pf190 25).toInt := e221
      have e222 : (pf208 26).toInt = (pf190 26).toInt := e222
      have e223 : FrB (pf190 13).toInt na6 ma7 na209 ma210 := e223
      have ht_z184 := ht_z184.kp (FrB.le e223 (by omega)) (by omega)
      have hn_ht_z184 := ht_z184.num
      have hdq_z184 := dp_fb (x := z184) e223 (by omega) (by omega)
      have hxd_v10 := hxd_v10.kp (FrB.le e223 (by omega)) (by omega)
      have hfb := hfb.tr e223 (by omega)
      have e224 : FrW (pf190 26).toInt wa8 wa211 := e224
      have hfw := hfw.tr e224 (by omega)
      have e225 : ExR ta (tf 6).toInt na209 ma210 v213 (pf190 13).toInt (pf208 13).toInt (3 * (bp ta (pf208 11) - bp ta (pf190 11))) (pf190 12).toInt := e225
      have ht_v213 := e225
      have hn_ht_v213 := ht_v213.num
      have e226 : FsI (tf 6).toInt (pf208 13).toInt na209 := e226
      have hfs := e226
      have e227 : R_mp_expression (RL_mp_expression (lv - 1)) (RL_mp_conditional (lv - 1)) ta pf190 na6 ma7 wa8 pf208 na209 ma210 wa211 v213 0 := e227
      have e227L : (RL_mp_expression lv) ta pf190 na6 ma7 wa8 pf208 na209 ma210 wa211 v213 0 := up_RL_mp_expression (show 1 ≤ lv from by first | exact oz_6721671b0f g9 g4 | omega) ▸ e227
      have hw : pw D A s.heap H locs [wdP cs h r g tf ta pf208 na209 ma210 wa211 cf ca ef ea xf xa] := hw
      have lv213 := Int32.le_toInt v213
      have uv213 := Int32.toInt_lt v213
      refine lv_istore (lv' := [(4, .int v213), (3, .int (pf5 11)), (2, .int v10), (1, .int (pf 11)), (0, .ref h)]) S.x S.b d_Mpg_conditional_49 hl (by decide) rfl (fun ls hl => ?_)
      refine lv_aload_n S.x S.b d_Mpg_conditional_51 rfl (lv_at hl 4 rfl) ?_
      obtain ⟨sk228, hRsk228, st229, hSsk228⟩ := oP_litB hP (k := 103) (tx := ":") (n := 1) (List.mem_of_getElem? (i := 43) rfl)
      refine va_ldcS S.x S.b S.own hRsk228 d_Mpg_conditional_52 ?_
      refine th_callv (ps0 := [wdP cs h r g tf ta pf na ma wa cf ca ef ea xf xa]) (pr := []) (pcs := [wdP cs h r g tf ta pf208 na209 ma210 wa211 cf ca ef ea xf xa]) (As := [.ref sk228]) (rest := []) (c_mp_take l D cs sk228 1 (lby ":") h r g tf ta na209 ma210 wa211 cf ca ef ea xf xa pf208   (show 0 ≤ (pf208 11).toInt from by first | exact oz_06fa2c383c e214 e193 g0 e11 | omega) (show (pf208 11).toInt < (tf 6).toInt from by first | exact e215 | omega) (show (tf 6).toInt ≤ 2049 from by first | exact g2 | omega) (show 1 ≤ 100 from by omega) hlf htk) S hT hw (oX_call (P := (fun A U H => (oN A U H) ∧ (oP A g U H) ∧ (StLt A sk228 1 (lby ":") U H))) (pr := []) (oG_and oG_N (oG_and oG_P oG_QB)) hw hA ⟨hN, hP, ⟨_, hSsk228⟩⟩) (px_recv hT hw 0 0 rfl rfl rfl) m12_57 m12_54 m12_56 ms_9_15 m1_21 q_Mpg_take ⟨show 7 + 1 ≤ (8 * lv + 19) from (by first | exact oz_b5487fe559 | omega), show 8 + (2 + 11) + 230 ≤ (220 * lv + 690) from (by first | exact oz_3bd8703fc7 | omega)⟩ hl.1 rfl (Nat.le_of_ble_eq_true rfl) d_Mpg_conditional_54 ⟨Nat.le_of_ble_eq_true rfl, Nat.le_of_ble_eq_true rfl⟩ hne hlk hA hAe (fun o t h => Or.inr h) ?_ (fun p233 H locs hp233 hw => ?_)
      · exact fun p1 H1 locs1 hp hw => by obtain ⟨pq1, pq2, pq3, pq4, rfl, hq1, hq2, hu_na, hu_ma, hu_wa, hq3⟩ := hp; exact ⟨_, ⟨pq1, pq2, pq3, pq4, rfl, hq1, hq2, (Or.inl (Or.inr ⟨pf5, na6, ma7, wa8, v10, e24, v29, e32, Or.inl ⟨nc33, Or.inr ⟨nc35, z184, ez184, Or.inr ⟨e188, Or.inr ⟨pf190, e203, Or.inr ⟨pf208, na209, ma210, wa211, v213, e227L, Or.inl ⟨pq1, hq3, rfl, hu_na, hu_ma, hu_wa, rfl, rfl⟩⟩⟩⟩⟩⟩⟩))⟩, hw⟩
      obtain ⟨pf232, rfl, e235, e236, e237, e238, e239, e240, e241, e242, e243⟩ := hp233
      have e235 : (pf232 11).toInt = (pf208 11).toInt + 1 := e235
      have e236 : (pf232 11).toInt < (tf 6).toInt := e236
      have e237 : bp ta (pf208 11) + 1 ≤ bp ta (pf232 11) := e237
      have e238 : (pf232 12).toInt = (pf208 12).toInt := e238
      have e239 : (pf232 13).toInt = (pf208 13).toInt := e239
      have e240 : (pf232 24).toInt = (pf208 24).toInt := e240
      have e241 : (pf232 25).toInt = (pf208 25).toInt := e241
      have e242 : (pf232 26).toInt = (pf208 26).toInt := e242
      have e243 : R_mp_take 1 (lby ":") ta pf208 pf232 0 := e243
      have hw : pw D A s.heap H locs [wdP cs h r g tf ta pf232 na209 ma210 wa211 cf ca ef ea xf xa] := hw
      refine lv_aload_n S.x S.b d_Mpg_conditional_57 rfl (lv_at hl 4 rfl) ?_
      refine th_calli (ps0 := [wdP cs h r g tf ta pf na ma wa cf ca ef ea xf xa]) (pr := []) (pcs := [wdP cs h r g tf ta pf232 na209 ma210 wa211 cf ca ef ea xf xa]) (As := []) (rest := []) ((hE.go (by omega)).2 h r g tf ta cf ca ef ea xf xa pf232 na209 ma210 wa211   (show 0 ≤ (pf232 11).toInt from by first | exact oz_954c9acc8e e235 e214 g0 e11 e193 | omega) (show (pf232 11).toInt < (tf 6).toInt from by first | exact e236 | omega) (show (tf 6).toInt ≤ 2049 from by first | exact g2 | omega) (show 0 ≤ (pf232 12).toInt from by first | exact oz_cffcf29412 e238 e219 e197 e16 g8 g7 | omega) (show (pf232 12).toInt ≤ 60 from by first | exact oz_51eeb0c7ba e238 e219 e197 e198 | omega) (show 0 ≤ (pf232 13).toInt from by first | exact oz_e8098791ea e239 e216 e199 hnx_v10.1 hnx_v10.2 | omega) (show (pf232 13).toInt ≤ (pf232 11).toInt + 20 from by first | exact oz_301eea1e0b e235 e239 e217 g6 e14 e193 e199 | omega) (show 0 ≤ (pf232 26).toInt from by first | exact oz_00b9fbaef4 e242 e222 e202 e19 g7 | omega) (show (pf232 26).toInt ≤ (pf232 12).toInt from by first | exact oz_3357ca9d54 e238 e242 e219 e222 e197 e202 e16 e19 g8 | omega) (show 61 ≤ (pf232 12).toInt + ((lv - 1 : Nat) : Int) from by omega) (show lv - 1 ≤ 61 from by omega) hlf htk (FsI.le (N' := (pf232 13).toInt) hfs (by omega))) S hT hw (oX_call (P := (fun A U H => (oN A U H) ∧ (oP A g U H))) (pr := []) (oG_and oG_N oG_P) hw hA ⟨hN, hP⟩) (px_recv hT hw 0 0 rfl rfl rfl) m12_14 m12_11 m12_13 ms_9_5 m1_21 q_Mpg_conditional ⟨show (8 * (lv - 1) + 19) + 1 ≤ (8 * lv + 19) from by omega, show 8 + (7 + 11) + (220 * (lv - 1) + 690) ≤ (220 * lv + 690) from by omega⟩ hl.1 rfl (Nat.le_of_ble_eq_true rfl) d_Mpg_conditional_58 ⟨Nat.le_of_ble_eq_true rfl, Nat.le_of_ble_eq_true rfl⟩ hne hlk hA hAe (fun o t h => Or.inr h) ?_ (fun v253 p252 H locs hp252 hw => ?_)
      · exact fun p1 H1 locs1 hp hw => by obtain ⟨pq1, pq2, pq3, pq4, rfl, hq1, hq2, hq3⟩ := hp; exact ⟨_, ⟨pq1, pq2, pq3, pq4, rfl, hq1, hq2, (Or.inl (Or.inr ⟨pf5, na6, ma7, wa8, v10, e24, v29, e32, Or.inl ⟨nc33, Or.inr ⟨nc35, z184, ez184, Or.inr ⟨e188, Or.inr ⟨pf190, e203, Or.inr ⟨pf208, na209, ma210, wa211, v213, e227L, Or.inr ⟨pf232, e243, Or.inl ⟨pq1, pq2, pq3, pq4, (up_RL_mp_conditional (show 1 ≤ lv from by first | exact oz_6721671b0f g9 g4 | omega) ▸ hq3), rfl, rfl, rfl, rfl, rfl, rfl⟩⟩⟩⟩⟩⟩⟩⟩))⟩, hw⟩
      obtain ⟨pf248, na249, ma250, wa251, rfl, e254, e255, e256, e257, e258, e259, e260, e261, e262, e263, e264, e265, e266, e267⟩ := hp252
      have e254 : (pf232 11).toInt + 1 ≤ (pf248 11).toInt := e254
      have e255 : (pf248 11).toInt < (tf 6).toInt := e255
      have e256 : (pf232 13).toInt + 1 ≤ (pf248 13).toInt := e256
      have e257 : (pf248 13).toInt - (pf232 13).toInt ≤ (pf248 11).toInt - (pf232 11).toInt := e257
      have e258 : bp ta (pf232 11) + 1 ≤ bp ta (pf248 11) := e258
      have e259 : (pf248 12).toInt = (pf232 12).toInt := e259
      have e260 : (pf248 24).toInt = (pf232 24).toInt := e260
      have e261 : (pf248 25).toInt = (pf232 25).toInt := e261
      have e262 : (pf248 26).toInt = (pf232 26).toInt := e262
      have e263 : FrB (pf232 13).toInt na209 ma210 na249 ma250 := e263
      have ht_z184 := ht_z184.kp (FrB.le e263 (by omega)) (by omega)
      have hn_ht_z184 := ht_z184.num
      have hdq_z184 := dp_fb (x := z184) e263 (by omega) (by omega)
      have ht_v213 := ht_v213.kp (FrB.le e263 (by omega)) (by omega)
      have hn_ht_v213 := ht_v213.num
      have hdq_v213 := dp_fb (x := v213) e263 (by omega) (by omega)
      have hxd_v10 := hxd_v10.kp (FrB.le e263 (by omega)) (by omega)
      have hfb := hfb.tr e263 (by omega)
      have e264 : FrW (pf232 26).toInt wa211 wa251 := e264
      have hfw := hfw.tr e264 (by omega)
      have e265 : ExD ta (tf 6).toInt na249 ma250 v253 (pf232 13).toInt (pf248 13).toInt (3 * (bp ta (pf248 11) - bp ta (pf232 11))) (pf232 12).toInt := e265
      have hxd_v253 := e265
      have hnx_v253 := hxd_v253.num
      have e266 : FsI (tf 6).toInt (pf248 13).toInt na249 := e266
      have hfs := e266
      have e267 : R_mp_conditional (RL_mp_expression (lv - 1)) (RL_mp_conditional (lv - 1)) ta pf232 na209 ma210 wa211 pf248 na249 ma250 wa251 v253 0 := e267
      have e267L : (RL_mp_conditional lv) ta pf232 na209 ma210 wa211 pf248 na249 ma250 wa251 v253 0 := up_RL_mp_conditional (show 1 ≤ lv from by first | exact oz_6721671b0f g9 g4 | omega) ▸ e267
      have hw : pw D A s.heap H locs [wdP cs h r g tf ta pf248 na249 ma250 wa251 cf ca ef ea xf xa] := hw
      have lv253 := Int32.le_toInt v253
      have uv253 := Int32.toInt_lt v253
      refine lv_istore (lv' := [(5, .int v253), (4, .int v213), (3, .int (pf5 11)), (2, .int v10), (1, .int (pf 11)), (0, .ref h)]) S.x S.b d_Mpg_conditional_61 hl (by decide) rfl (fun ls hl => ?_)
      refine lv_aload_n S.x S.b d_Mpg_conditional_63 rfl (lv_at hl 5 rfl) ?_
      refine lv_dup S.x S.b d_Mpg_conditional_64 rfl ?_
      refine px_get S k_Mpg hT hw 0 0 12 (v := .int (pf248 12)) rfl rfl rfl (by decide) m9_236 d_Mpg_conditional_65 ?_
      refine lv_iconst (v := 1) S.x S.b d_Mpg_conditional_68 (by decide) ?_
      refine lv_isub S.x S.b d_Mpg_conditional_69 ?_
      have lr268 := Int32.le_toInt (pf248 12)
      have ur268 := Int32.toInt_lt (pf248 12)
      refine lv_topi (fun z269 ez269 => ?_)
      have tz269 : z269.toInt = ((pf248 12).toInt - (1 : Int) + 2147483648) % 4294967296 - 2147483648 := by rw [ez269]; exact i_sub (pf248 12) 1
      have lz269 := Int32.le_toInt z269
      have uz269 := Int32.toInt_lt z269
      try replace tz269 : z269.toInt = (pf248 12).toInt - (1 : Int) := by omega
      refine px_put S k_Mpg hT hw 0 0 12 rfl rfl (by decide) m9_236 rfl rfl rfl (Nat.le_of_ble_eq_true rfl) d_Mpg_conditional_70 (w' := wdP cs h r g tf ta (upd pf248 12 z269) na249 ma250 wa251 cf ca ef ea xf xa) (ps' := [wdP cs h r g tf ta (upd pf248 12 z269) na249 ma250 wa251 cf ca ef ea xf xa]) rfl rfl (fun H locs hw => ?_)
      refine lv_aload_n S.x S.b d_Mpg_conditional_73 rfl (lv_at hl 5 rfl) ?_
      refine lv_bipush (v := 8) S.x S.b d_Mpg_conditional_74 (by decide) ?_
      refine lv_iload_n S.x S.b d_Mpg_conditional_76 rfl (lv_at hl 2 rfl) ?_
      refine px_calli (pr := []) (px_runV (As := [.int 8, .int (pf5 11)]) (rest := []) S (c_mp_make l D cs h r g tf ta wa251 cf ca ef ea xf xa (upd pf248 12 z269) na249 ma250 8 (pf5 11)  (show 0 ≤ (pf248 13).toInt from by first | exact oz_54eba00cf9 hnx_v253.1 hnx_v253.2 | omega) (show (pf248 13).toInt < 2100 from by first | exact oz_4f78757f1c e257 e235 e239 e255 g2 e217 g6 e14 e193 e199 | omega) _) hT (pr := []) (pcs := [wdP cs h r g tf ta (upd pf248 12 z269) na249 ma250 wa251 cf ca ef ea xf xa]) hw px_X.tt (px_recv hT hw 0 0 rfl rfl rfl) m11_209 m11_206 m11_208 ms_8_12 m1_21 q_Mpg_make ⟨show 0 + 1 ≤ (8 * lv + 19) from (by first | exact oz_11aebc2b0b | omega), show 8 + (3 + 11) + 0 ≤ (220 * lv + 690) from (by first | exact oz_88ea401393 | omega)⟩ hl.1 rfl (Nat.le_of_ble_eq_true rfl) d_Mpg_conditional_77 ⟨Nat.le_of_ble_eq_true rfl, Nat.le_of_ble_eq_true rfl⟩) hw hA (fun v277 p276 H locs hp276 hw => ?_)
      obtain ⟨pf273, na274, ma275, rfl, e278, e279, e280, e281, e282, e283, e284, e285, e286⟩ := hp276
      have e278 : v277.toInt = (pf248 13).toInt := e278
      have e279 : (pf273 13).toInt = (pf248 13).toInt + 1 := e279
      have e280 : (pf273 11).toInt = (pf248 11).toInt := e280
      have e281 : (pf273 12).toInt = z269.toInt := e281
      have e282 : (pf273 24).toInt = (pf248 24).toInt := e282
      have e283 : (pf273 25).toInt = (pf248 25).toInt := e283
      have e284 : (pf273 26).toInt = (pf248 26).toInt := e284
      have e285 : MkN na249 ma250 na274 ma275 v277 (8 : Int32) (pf5 11) := e285
      have e286 : R_mp_make (8 : Int32) (pf5 11) (upd pf248 12 z269) na249 ma250 pf273 na274 ma275 v277 := e286
      obtain ⟨qb2871, qb2872, qb2873, qb2874⟩ := tk_eq (ta := ta) (x := (pf273 11)) (y := (pf248 11)) (by omega)
      have hmk_v277 := e285
      have hfm_v277 := MkN.frb (b := v277.toInt) hmk_v277 (by omega) (by omega)
      have ht_z184 := ht_z184.kp (FrB.le hfm_v277 (by omega)) (by omega)
      have hn_ht_z184 := ht_z184.num
      have hdq_z184 := dp_fb (x := z184) hfm_v277 (by omega) (by omega)
      have ht_v213 := ht_v213.kp (FrB.le hfm_v277 (by omega)) (by omega)
      have hn_ht_v213 := ht_v213.num
      have hdq_v213 := dp_fb (x := v213) hfm_v277 (by omega) (by omega)
      have hxd_v10 := hxd_v10.kp (FrB.le hfm_v277 (by omega)) (by omega)
      have hxd_v253 := hxd_v253.kp (FrB.le hfm_v277 (by omega)) (by omega)
      have hfs := FsI.mk hfs hmk_v277 (by omega) (by omega) (by omega) (by omega)
      have hfb := hfb.tr hfm_v277 (by omega)
      have hnk_v277 := hmk_v277.nk (by decide) (by decide) (by omega)
      have hdn_v277 := dp_nk hmk_v277
      have hw : pw D A s.heap H locs [wdP cs h r g tf ta pf273 na274 ma275 wa251 cf ca ef ea xf xa] := hw
      have lv277 := Int32.le_toInt v277
      have uv277 := Int32.toInt_lt v277
      refine lv_istore (lv' := [(6, .int v277), (5, .int v253), (4, .int v213), (3, .int (pf5 11)), (2, .int v10), (1, .int (pf 11)), (0, .ref h)]) S.x S.b d_Mpg_conditional_80 hl (by decide) rfl (fun ls hl => ?_)
      refine lv_aload_n S.x S.b d_Mpg_conditional_82 rfl (lv_at hl 6 rfl) ?_
      refine px_get S k_Mpg hT hw 0 0 23 (v := .ref (r 23)) rfl rfl rfl (by decide) m10_11 d_Mpg_conditional_83 ?_
      refine lv_iload S.x S.b d_Mpg_conditional_86 (lv_at hl 0 rfl) ?_
      refine lv_iconst (v := 1) S.x S.b d_Mpg_conditional_88 (by decide) ?_
      refine lv_aload_n S.x S.b d_Mpg_conditional_89 rfl (lv_at hl 6 rfl) ?_
      refine px_get S k_Mpg hT hw 0 0 23 (v := .ref (r 23)) rfl rfl rfl (by decide) m10_11 d_Mpg_conditional_90 ?_
      refine lv_iload_n S.x S.b d_Mpg_conditional_93 rfl (lv_at hl 4 rfl) ?_
      refine lv_if_ge (tgt := 103) S.x S.b d_Mpg_conditional_94 (by decide) (fun c288 => ?_) (fun c288 => ?_)
      · have nc288 : (0 : Int) ≤ v10.toInt := (i_le (x := 0) (y := v10)).mp c288
        exfalso
        omega
      · have nc288 : ¬ (0 : Int) ≤ v10.toInt := mt (i_le (x := 0) (y := v10)).mpr c288
        refine lv_iconst (v := (-1)) S.x S.b d_Mpg_conditional_97 (by decide) ?_
        refine lv_iload_n S.x S.b d_Mpg_conditional_98 rfl (lv_at hl 4 rfl) ?_
        refine lv_isub S.x S.b d_Mpg_conditional_99 ?_
        refine lv_topi (fun z290 ez290 => ?_)
        have tz290 : z290.toInt = ((-1 : Int) - v10.toInt + 2147483648) % 4294967296 - 2147483648 := by rw [ez290]; exact i_sub (-1) v10
        have lz290 := Int32.le_toInt z290
        have uz290 := Int32.toInt_lt z290
        try replace tz290 : z290.toInt = (-1 : Int) - v10.toInt := by omega
        have hsz290 : z184 = z290 := i_eq.mpr (by omega); subst hsz290
        refine lv_goto (tgt := 104) S.x S.b d_Mpg_conditional_100 (by decide) ?_
        refine px_iald S hT hw 0 19 (n := 2100) (f := (na274 23)) rfl gp_23 (x := z184) (vp_in_iff.mpr (by first | exact oz_25605124ac tz184 nc35 hnx_v10.2 e14 g6 e193 g2 e214 e235 e255 e254 | (constructor <;> omega))) d_Mpg_conditional_104 ?_
        refine lv_topi (fun z291 ez291 => ?_)
        have lz291 := Int32.le_toInt z291
        have uz291 := Int32.toInt_lt z291
        have rz291 : z291.toInt = dp na274 z184 := by rw [ez291]; rfl
        refine lv_aload_n S.x S.b d_Mpg_conditional_105 rfl (lv_at hl 6 rfl) ?_
        refine px_get S k_Mpg hT hw 0 0 23 (v := .ref (r 23)) rfl rfl rfl (by decide) m10_11 d_Mpg_conditional_106 ?_
        refine lv_iload S.x S.b d_Mpg_conditional_109 (lv_at hl 2 rfl) ?_
        refine px_iald S hT hw 0 19 (n := 2100) (f := (na274 23)) rfl gp_23 (x := v213) (vp_in_iff.mpr (by constructor <;> omega)) d_Mpg_conditional_111 ?_
        refine lv_topi (fun z292 ez292 => ?_)
        have lz292 := Int32.le_toInt z292
        have uz292 := Int32.toInt_lt z292
        have rz292 : z292.toInt = dp na274 v213 := by rw [ez292]; rfl
        refine lv_aload_n S.x S.b d_Mpg_conditional_112 rfl (lv_at hl 6 rfl) ?_
        refine px_get S k_Mpg hT hw 0 0 23 (v := .ref (r 23)) rfl rfl rfl (by decide) m10_11 d_Mpg_conditional_113 ?_
        refine lv_iload S.x S.b d_Mpg_conditional_116 (lv_at hl 1 rfl) ?_
        refine lv_if_ge (tgt := 128) S.x S.b d_Mpg_conditional_118 (by decide) (fun c293 => ?_) (fun c293 => ?_)
        · have nc293 : (0 : Int) ≤ v253.toInt := (i_le (x := 0) (y := v253)).mp c293
          refine lv_iload S.x S.b d_Mpg_conditional_128 (lv_at hl 1 rfl) ?_
          have ht_v253 := hxd_v253.pos (by omega); have hn_ht_v253 := ht_v253.num
          refine px_iald S hT hw 0 19 (n := 2100) (f := (na274 23)) rfl gp_23 (x := v253) (vp_in_iff.mpr (by first | exact oz_5801cd9f67 nc293 hnx_v253.1 e257 e235 e239 e255 g2 e217 g6 e14 e193 e199 | (constructor <;> omega))) d_Mpg_conditional_130 ?_
          refine lv_topi (fun z295 ez295 => ?_)
          have lz295 := Int32.le_toInt z295
          have uz295 := Int32.toInt_lt z295
          have rz295 : z295.toInt = dp na274 v253 := by rw [ez295]; rfl
          refine px_calli (pr := [wdP cs h r g tf ta pf273 na274 ma275 wa251 cf ca ef ea xf xa]) (px_runS (As := [.int z292, .int z295]) (rest := [.int z291, .int 1, .int v277, .ref (r 23)]) S (c_mp_deeper l D cs  z292 z295   _) hT (pr := [wdP cs h r g tf ta pf273 na274 ma275 wa251 cf ca ef ea xf xa]) (pcs := []) hw px_X.tt m12_49 m12_47 m12_48 m1_21 q_Mpg_deeper ⟨show 0 + 1 ≤ (8 * lv + 19) from (by first | exact oz_11aebc2b0b | omega), show 8 + (2 + 11) + 0 ≤ (220 * lv + 690) from (by first | exact oz_a5526f1e7e | omega)⟩ hl.1 rfl (Nat.le_of_ble_eq_true rfl) d_Mpg_conditional_131 ⟨Nat.le_of_ble_eq_true rfl, Nat.le_of_ble_eq_true rfl⟩) hw hA (fun v297 p296 H locs hp296 hw => ?_)
          obtain ⟨rfl, e298, e299, e300, e301⟩ := hp296
          have e298 : z292.toInt ≤ v297.toInt := e298
          have e299 : z295.toInt ≤ v297.toInt := e299
          have e300 : v297.toInt = z292.toInt ∨ v297.toInt = z295.toInt := e300
          have e301 : R_mp_deeper z292 z295 v297 := e301
          have hw : pw D A s.heap H locs [wdP cs h r g tf ta pf273 na274 ma275 wa251 cf ca ef ea xf xa] := hw
          have lv297 := Int32.le_toInt v297
          have uv297 := Int32.toInt_lt v297
          refine px_calli (pr := [wdP cs h r g tf ta pf273 na274 ma275 wa251 cf ca ef ea xf xa]) (px_runS (As := [.int z291, .int v297]) (rest := [.int 1, .int v277, .ref (r 23)]) S (c_mp_deeper l D cs  z291 v297   _) hT (pr := [wdP cs h r g tf ta pf273 na274 ma275 wa251 cf ca ef ea xf xa]) (pcs := []) hw px_X.tt m12_49 m12_47 m12_48 m1_21 q_Mpg_deeper ⟨show 0 + 1 ≤ (8 * lv + 19) from (by first | exact oz_11aebc2b0b | omega), show 8 + (2 + 11) + 0 ≤ (220 * lv + 690) from (by first | exact oz_a5526f1e7e | omega)⟩ hl.1 rfl (Nat.le_of_ble_eq_true rfl) d_Mpg_conditional_134 ⟨Nat.le_of_ble_eq_true rfl, Nat.le_of_ble_eq_true rfl⟩) hw hA (fun v303 p302 H locs hp302 hw => ?_)
          obtain ⟨rfl, e304, e305, e306, e307⟩ := hp302
          have e304 : z291.toInt ≤ v303.toInt := e304
          have e305 : v297.toInt ≤ v303.toInt := e305
          have e306 : v303.toInt = z291.toInt ∨ v303.toInt = v297.toInt := e306
          have e307 : R_mp_deeper z291 v297 v303 := e307
          have hw : pw D A s.heap H locs [wdP cs h r g tf ta pf273 na274 ma275 wa251 cf ca ef ea xf xa] := hw
          have lv303 := Int32.le_toInt v303
          have uv303 := Int32.toInt_lt v303
          refine lv_iadd S.x S.b d_Mpg_conditional_137 ?_
          refine lv_topi (fun z308 ez308 => ?_)
          have tz308 : z308.toInt = ((1 : Int) + v303.toInt + 2147483648) % 4294967296 - 2147483648 := by rw [ez308]; exact i_add 1 v303
          have lz308 := Int32.le_toInt z308
          have uz308 := Int32.toInt_lt z308
          try replace tz308 : z308.toInt = (1 : Int) + v303.toInt := by omega
          refine px_iast S hT hw 0 19 (n := 2100) (f := (na274 23)) (x := v277) (y := z308) rfl gp_23 (vp_in_iff.mpr (by constructor <;> omega)) d_Mpg_conditional_138 (w' := wdP cs h r g tf ta pf273 (va_up na274 23 (upd (na274 23) v277.toNatClampNeg z308)) ma275 wa251 cf ca ef ea xf xa) (ps' := [wdP cs h r g tf ta pf273 (va_up na274 23 (upd (na274 23) v277.toNatClampNeg z308)) ma275 wa251 cf ca ef ea xf xa]) sp_23 rfl (fun H locs hw => ?_)
          refine lv_aload_n S.x S.b d_Mpg_conditional_139 rfl (lv_at hl 6 rfl) ?_
          refine px_get S k_Mpg hT hw 0 0 16 (v := .ref (r 16)) rfl rfl rfl (by decide) m10_0 d_Mpg_conditional_140 ?_
          refine lv_iload S.x S.b d_Mpg_conditional_143 (lv_at hl 0 rfl) ?_
          refine lv_iload_n S.x S.b d_Mpg_conditional_145 rfl (lv_at hl 5 rfl) ?_
          refine px_iast S hT hw 0 12 (n := 2100) (f := ((va_up na274 23 (upd (na274 23) v277.toNatClampNeg z308)) 16)) (x := v277) (y := (pf 11)) rfl gp_16 (vp_in_iff.mpr (by constructor <;> omega)) d_Mpg_conditional_146 (w' := wdP cs h r g tf ta pf273 (va_up (va_up na274 23 (upd (na274 23) v277.toNatClampNeg z308)) 16 (upd ((va_up na274 23 (upd (na274 23) v277.toNatClampNeg z308)) 16) v277.toNatClampNeg (pf 11))) ma275 wa251 cf ca ef ea xf xa) (ps' := [wdP cs h r g tf ta pf273 (va_up (va_up na274 23 (upd (na274 23) v277.toNatClampNeg z308)) 16 (upd ((va_up na274 23 (upd (na274 23) v277.toNatClampNeg z308)) 16) v277.toNatClampNeg (pf 11))) ma275 wa251 cf ca ef ea xf xa]) sp_16 rfl (fun H locs hw => ?_)
          refine lv_aload_n S.x S.b d_Mpg_conditional_147 rfl (lv_at hl 6 rfl) ?_
          refine px_get S k_Mpg hT hw 0 0 17 (v := .ref (r 17)) rfl rfl rfl (by decide) m10_1 d_Mpg_conditional_148 ?_
          refine lv_iload S.x S.b d_Mpg_conditional_151 (lv_at hl 0 rfl) ?_
          refine lv_iload_n S.x S.b d_Mpg_conditional_153 rfl (lv_at hl 4 rfl) ?_
          refine lv_if_ge (tgt := 163) S.x S.b d_Mpg_conditional_154 (by decide) (fun c309 => ?_) (fun c309 => ?_)
          · have nc309 : (0 : Int) ≤ v10.toInt := (i_le (x := 0) (y := v10)).mp c309
            exfalso
            omega
          · have nc309 : ¬ (0 : Int) ≤ v10.toInt := mt (i_le (x := 0) (y := v10)).mpr c309
            refine lv_iconst (v := (-1)) S.x S.b d_Mpg_conditional_157 (by decide) ?_
            refine lv_iload_n S.x S.b d_Mpg_conditional_158 rfl (lv_at hl 4 rfl) ?_
            refine lv_isub S.x S.b d_Mpg_conditional_159 ?_
            refine lv_topi (fun z311 ez311 => ?_)
            have tz311 : z311.toInt = ((-1 : Int) - v10.toInt + 2147483648) % 4294967296 - 2147483648 := by rw [ez311]; exact i_sub (-1) v10
            have lz311 := Int32.le_toInt z311
            have uz311 := Int32.toInt_lt z311
            try replace tz311 : z311.toInt = (-1 : Int) - v10.toInt := by omega
            have hsz311 : z184 = z311 := i_eq.mpr (by omega); subst hsz311
            refine lv_goto (tgt := 164) S.x S.b d_Mpg_conditional_160 (by decide) ?_
            refine px_iast S hT hw 0 13 (n := 2100) (f := ((va_up (va_up na274 23 (upd (na274 23) v277.toNatClampNeg z308)) 16 (upd ((va_up na274 23 (upd (na274 23) v277.toNatClampNeg z308)) 16) v277.toNatClampNeg (pf 11))) 17)) (x := v277) (y := z184) rfl gp_17 (vp_in_iff.mpr (by constructor <;> omega)) d_Mpg_conditional_164 (w' := wdP cs h r g tf ta pf273 (va_up (va_up (va_up na274 23 (upd (na274 23) v277.toNatClampNeg z308)) 16 (upd ((va_up na274 23 (upd (na274 23) v277.toNatClampNeg z308)) 16) v277.toNatClampNeg (pf 11))) 17 (upd ((va_up (va_up na274 23 (upd (na274 23) v277.toNatClampNeg z308)) 16 (upd ((va_up na274 23 (upd (na274 23) v277.toNatClampNeg z308)) 16) v277.toNatClampNeg (pf 11))) 17) v277.toNatClampNeg z184)) ma275 wa251 cf ca ef ea xf xa) (ps' := [wdP cs h r g tf ta pf273 (va_up (va_up (va_up na274 23 (upd (na274 23) v277.toNatClampNeg z308)) 16 (upd ((va_up na274 23 (upd (na274 23) v277.toNatClampNeg z308)) 16) v277.toNatClampNeg (pf 11))) 17 (upd ((va_up (va_up na274 23 (upd (na274 23) v277.toNatClampNeg z308)) 16 (upd ((va_up na274 23 (upd (na274 23) v277.toNatClampNeg z308)) 16) v277.toNatClampNeg (pf 11))) 17) v277.toNatClampNeg z184)) ma275 wa251 cf ca ef ea xf xa]) sp_17 rfl (fun H locs hw => ?_)
            refine lv_aload_n S.x S.b d_Mpg_conditional_165 rfl (lv_at hl 6 rfl) ?_
            refine px_get S k_Mpg hT hw 0 0 18 (v := .ref (r 18)) rfl rfl rfl (by decide) m10_3 d_Mpg_conditional_166 ?_
            refine lv_iload S.x S.b d_Mpg_conditional_169 (lv_at hl 0 rfl) ?_
            refine lv_iload S.x S.b d_Mpg_conditional_171 (lv_at hl 2 rfl) ?_
            refine px_iast S hT hw 0 14 (n := 2100) (f := (ma275 18)) (x := v277) (y := v213) rfl gp_18 (vp_in_iff.mpr (by constructor <;> omega)) d_Mpg_conditional_173 (w' := wdP cs h r g tf ta pf273 (va_up (va_up (va_up na274 23 (upd (na274 23) v277.toNatClampNeg z308)) 16 (upd ((va_up na274 23 (upd (na274 23) v277.toNatClampNeg z308)) 16) v277.toNatClampNeg (pf 11))) 17 (upd ((va_up (va_up na274 23 (upd (na274 23) v277.toNatClampNeg z308)) 16 (upd ((va_up na274 23 (upd (na274 23) v277.toNatClampNeg z308)) 16) v277.toNatClampNeg (pf 11))) 17) v277.toNatClampNeg z184)) (va_up ma275 18 (upd (ma275 18) v277.toNatClampNeg v213)) wa251 cf ca ef ea xf xa) (ps' := [wdP cs h r g tf ta pf273 (va_up (va_up (va_up na274 23 (upd (na274 23) v277.toNatClampNeg z308)) 16 (upd ((va_up na274 23 (upd (na274 23) v277.toNatClampNeg z308)) 16) v277.toNatClampNeg (pf 11))) 17 (upd ((va_up (va_up na274 23 (upd (na274 23) v277.toNatClampNeg z308)) 16 (upd ((va_up na274 23 (upd (na274 23) v277.toNatClampNeg z308)) 16) v277.toNatClampNeg (pf 11))) 17) v277.toNatClampNeg z184)) (va_up ma275 18 (upd (ma275 18) v277.toNatClampNeg v213)) wa251 cf ca ef ea xf xa]) sp_18 rfl (fun H locs hw => ?_)
            refine lv_aload_n S.x S.b d_Mpg_conditional_174 rfl (lv_at hl 6 rfl) ?_
            refine px_get S k_Mpg hT hw 0 0 19 (v := .ref (r 19)) rfl rfl rfl (by decide) m10_5 d_Mpg_conditional_175 ?_
            refine lv_iload S.x S.b d_Mpg_conditional_178 (lv_at hl 0 rfl) ?_
            refine lv_iload S.x S.b d_Mpg_conditional_180 (lv_at hl 1 rfl) ?_
            refine lv_if_ge (tgt := 192) S.x S.b d_Mpg_conditional_182 (by decide) (fun c312 => ?_) (fun c312 => ?_)
            · have nc312 : (0 : Int) ≤ v253.toInt := (i_le (x := 0) (y := v253)).mp c312
              refine lv_iload S.x S.b d_Mpg_conditional_192 (lv_at hl 1 rfl) ?_
              refine px_iast S hT hw 0 15 (n := 2100) (f := ((va_up ma275 18 (upd (ma275 18) v277.toNatClampNeg v213)) 19)) (x := v277) (y := v253) rfl gp_19 (vp_in_iff.mpr (by constructor <;> omega)) d_Mpg_conditional_194 (w' := wdP cs h r g tf ta pf273 (va_up (va_up (va_up na274 23 (upd (na274 23) v277.toNatClampNeg z308)) 16 (upd ((va_up na274 23 (upd (na274 23) v277.toNatClampNeg z308)) 16) v277.toNatClampNeg (pf 11))) 17 (upd ((va_up (va_up na274 23 (upd (na274 23) v277.toNatClampNeg z308)) 16 (upd ((va_up na274 23 (upd (na274 23) v277.toNatClampNeg z308)) 16) v277.toNatClampNeg (pf 11))) 17) v277.toNatClampNeg z184)) (va_up (va_up ma275 18 (upd (ma275 18) v277.toNatClampNeg v213)) 19 (upd ((va_up ma275 18 (upd (ma275 18) v277.toNatClampNeg v213)) 19) v277.toNatClampNeg v253)) wa251 cf ca ef ea xf xa) (ps' := [wdP cs h r g tf ta pf273 (va_up (va_up (va_up na274 23 (upd (na274 23) v277.toNatClampNeg z308)) 16 (upd ((va_up na274 23 (upd (na274 23) v277.toNatClampNeg z308)) 16) v277.toNatClampNeg (pf 11))) 17 (upd ((va_up (va_up na274 23 (upd (na274 23) v277.toNatClampNeg z308)) 16 (upd ((va_up na274 23 (upd (na274 23) v277.toNatClampNeg z308)) 16) v277.toNatClampNeg (pf 11))) 17) v277.toNatClampNeg z184)) (va_up (va_up ma275 18 (upd (ma275 18) v277.toNatClampNeg v213)) 19 (upd ((va_up ma275 18 (upd (ma275 18) v277.toNatClampNeg v213)) 19) v277.toNatClampNeg v253)) wa251 cf ca ef ea xf xa]) sp_19 rfl (fun H locs hw => ?_)
              refine lv_iload S.x S.b d_Mpg_conditional_195 (lv_at hl 0 rfl) ?_
              exact th_iret (v := v277) S hr rfl hlk hAe hw (⟨pf273, (va_up (va_up (va_up na274 23 (upd (na274 23) v277.toNatClampNeg z308)) 16 (upd ((va_up na274 23 (upd (na274 23) v277.toNatClampNeg z308)) 16) v277.toNatClampNeg (pf 11))) 17 (upd ((va_up (va_up na274 23 (upd (na274 23) v277.toNatClampNeg z308)) 16 (upd ((va_up na274 23 (upd (na274 23) v277.toNatClampNeg z308)) 16) v277.toNatClampNeg (pf 11))) 17) v277.toNatClampNeg z184)), (va_up (va_up ma275 18 (upd (ma275 18) v277.toNatClampNeg v213)) 19 (upd ((va_up ma275 18 (upd (ma275 18) v277.toNatClampNeg v213)) 19) v277.toNatClampNeg v253)), wa251, rfl, (show (pf 11).toInt + 1 ≤ (pf273 11).toInt from by first | exact oz_a94dab7bd6 e11 e280 e193 e254 e214 e235 | omega), (show (pf273 11).toInt < (tf 6).toInt from by first | exact oz_5d2fbac15b e255 e280 | omega), (show (pf 13).toInt + 1 ≤ (pf273 13).toInt from by first | exact oz_51872157b0 e13 e279 e199 e256 e216 e239 | omega), (show (pf273 13).toInt - (pf 13).toInt ≤ (pf273 11).toInt - (pf 11).toInt from by first | exact oz_e4ee09b645 e14 e279 e280 e193 e199 e257 e217 e235 e239 | omega), (show bp ta (pf 11) + 1 ≤ bp ta (pf273 11) from by first | exact oz_5a9929be88 e15 qb2871 e195 e258 e196 e218 e237 | omega), (show (pf273 12).toInt = (pf 12).toInt from by first | exact oz_9e0ebf2891 e16 e281 e197 tz269 e219 e259 e238 | omega), (show (pf273 24).toInt = (pf 24).toInt from by first | exact oz_a783471c71 e17 e282 e200 e260 e220 e240 | omega), (show (pf273 25).toInt = (pf 25).toInt from by first | exact oz_a783471c71 e18 e283 e201 e261 e221 e241 | omega), (show (pf273 26).toInt = (pf 26).toInt from by first | exact oz_a783471c71 e19 e284 e202 e262 e222 e242 | omega), (show FrB (pf 13).toInt na ma (va_up (va_up (va_up na274 23 (upd (na274 23) v277.toNatClampNeg z308)) 16 (upd ((va_up na274 23 (upd (na274 23) v277.toNatClampNeg z308)) 16) v277.toNatClampNeg (pf 11))) 17 (upd ((va_up (va_up na274 23 (upd (na274 23) v277.toNatClampNeg z308)) 16 (upd ((va_up na274 23 (upd (na274 23) v277.toNatClampNeg z308)) 16) v277.toNatClampNeg (pf 11))) 17) v277.toNatClampNeg z184)) (va_up (va_up ma275 18 (upd (ma275 18) v277.toNatClampNeg v213)) 19 (upd ((va_up ma275 18 (upd (ma275 18) v277.toNatClampNeg v213)) 19) v277.toNatClampNeg v253)) from (FrB.um (FrB.um (FrB.un (FrB.un (FrB.un hfb (by omega) (by omega)) (by omega) (by omega)) (by omega) (by omega)) (by omega) (by omega)) (by omega) (by omega))), (show FrW (pf 26).toInt wa wa251 from hfw), (show ExD ta (tf 6).toInt (va_up (va_up (va_up na274 23 (upd (na274 23) v277.toNatClampNeg z308)) 16 (upd ((va_up na274 23 (upd (na274 23) v277.toNatClampNeg z308)) 16) v277.toNatClampNeg (pf 11))) 17 (upd ((va_up (va_up na274 23 (upd (na274 23) v277.toNatClampNeg z308)) 16 (upd ((va_up na274 23 (upd (na274 23) v277.toNatClampNeg z308)) 16) v277.toNatClampNeg (pf 11))) 17) v277.toNatClampNeg z184)) (va_up (va_up ma275 18 (upd (ma275 18) v277.toNatClampNeg v213)) 19 (upd ((va_up ma275 18 (upd (ma275 18) v277.toNatClampNeg v213)) 19) v277.toNatClampNeg v253)) v277 (pf 13).toInt (pf273 13).toInt (3 * (bp ta (pf273 11) - bp ta (pf 11))) (pf 12).toInt from (exd_of (ExR.le (exr_cond (ExR.le ht_z184 (Int.le_refl _) (by omega) (Int.le_refl _) (Int.le_refl _)) (ExR.le ht_v213 (Int.le_refl _) (by omega) (Int.le_refl _) (by omega)) ht_v253 (by omega) (by omega) (fun x hx => ⟨fun j => by rw [up_far hx, up_far hx, up_far hx], fun j => by rw [up_far hx, up_far hx]⟩) (by rw [va_up_n (by decide), va_up_n (by decide), va_up_n (by decide), hnk_v277.1]; rfl) (ndt_of (by rw [va_up_n (by decide), va_up_n (by decide), va_up_n (by decide), hnk_v277.2.1]) (by omega) (by omega) (by omega)) (by rw [va_up_s, pk_us]) (by rw [va_up_n (by decide), va_up_s, pk_us]) (by rw [va_up_s, pk_us]) (by rw [dp_un (by decide), dp_un (by decide), dp_us]; refine ⟨?_, ?_, ?_⟩ <;> omega) (by rw [dp_un (by decide), dp_un (by decide), dp_us]; omega) ⟨(by rw [va_up_n (by decide), va_up_n (by decide), va_up_n (by decide), hnk_v277.2.2.1]; decide), (by rw [va_up_n (by decide), va_up_n (by decide), hnk_v277.2.2.2.2]; decide)⟩ (by omega)) (by omega) (by omega) (by omega) (Int.le_refl _)) (by omega))), (show FsI (tf 6).toInt (pf273 13).toInt (va_up (va_up (va_up na274 23 (upd (na274 23) v277.toNatClampNeg z308)) 16 (upd ((va_up na274 23 (upd (na274 23) v277.toNatClampNeg z308)) 16) v277.toNatClampNeg (pf 11))) 17 (upd ((va_up (va_up na274 23 (upd (na274 23) v277.toNatClampNeg z308)) 16 (upd ((va_up na274 23 (upd (na274 23) v277.toNatClampNeg z308)) 16) v277.toNatClampNeg (pf 11))) 17) v277.toNatClampNeg z184)) from (FsI.le (FsI.un (FsI.us (FsI.un hfs (by decide)) (by omega) (by omega)) (by decide)) (by omega))), (show R_mp_conditional (RL_mp_expression lv) (RL_mp_conditional lv) ta pf na ma wa pf273 (va_up (va_up (va_up na274 23 (upd (na274 23) v277.toNatClampNeg z308)) 16 (upd ((va_up na274 23 (upd (na274 23) v277.toNatClampNeg z308)) 16) v277.toNatClampNeg (pf 11))) 17 (upd ((va_up (va_up na274 23 (upd (na274 23) v277.toNatClampNeg z308)) 16 (upd ((va_up na274 23 (upd (na274 23) v277.toNatClampNeg z308)) 16) v277.toNatClampNeg (pf 11))) 17) v277.toNatClampNeg z184)) (va_up (va_up ma275 18 (upd (ma275 18) v277.toNatClampNeg v213)) 19 (upd ((va_up ma275 18 (upd (ma275 18) v277.toNatClampNeg v213)) 19) v277.toNatClampNeg v253)) wa251 v277 0 from (Or.inl (Or.inr ⟨pf5, na6, ma7, wa8, v10, e24, v29, e32, Or.inl ⟨nc33, Or.inr ⟨nc35, z184, ez184, Or.inr ⟨e188, Or.inr ⟨pf190, e203, Or.inr ⟨pf208, na209, ma210, wa211, v213, e227L, Or.inr ⟨pf232, e243, Or.inr ⟨pf248, na249, ma250, wa251, v253, e267L, z269, ez269, pf273, na274, ma275, v277, e286, nc288, z184, ez290, z291, ez291, z292, ez292, Or.inl ⟨nc293, z295, ez295, v297, e301, v303, e307, z308, ez308, nc309, z184, ez311, nc312, rfl, rfl, rfl, rfl, rfl, rfl⟩⟩⟩⟩⟩⟩⟩⟩⟩)))⟩) d_Mpg_conditional_197
            · have nc312 : ¬ (0 : Int) ≤ v253.toInt := mt (i_le (x := 0) (y := v253)).mpr c312
              exfalso
              omega
        · have nc293 : ¬ (0 : Int) ≤ v253.toInt := mt (i_le (x := 0) (y := v253)).mpr c293
          refine lv_iconst (v := (-1)) S.x S.b d_Mpg_conditional_121 (by decide) ?_
          refine lv_iload S.x S.b d_Mpg_conditional_122 (lv_at hl 1 rfl) ?_
          refine lv_isub S.x S.b d_Mpg_conditional_124 ?_
          refine lv_topi (fun z314 ez314 => ?_)
          have tz314 : z314.toInt = ((-1 : Int) - v253.toInt + 2147483648) % 4294967296 - 2147483648 := by rw [ez314]; exact i_sub (-1) v253
          have lz314 := Int32.le_toInt z314
          have uz314 := Int32.toInt_lt z314
          try replace tz314 : z314.toInt = (-1 : Int) - v253.toInt := by omega
          have ht_z314 := hxd_v253.neg (z := z314) (by omega) (by omega); have hn_ht_z314 := ht_z314.num
          refine lv_goto (tgt := 130) S.x S.b d_Mpg_conditional_125 (by decide) ?_
          refine px_iald S hT hw 0 19 (n := 2100) (f := (na274 23)) rfl gp_23 (x := z314) (vp_in_iff.mpr (by first | exact oz_5aca869617 tz314 nc293 hnx_v253.2 e257 e235 e239 e255 g2 e217 g6 e14 e193 e199 | (constructor <;> omega))) d_Mpg_conditional_130 ?_
          refine lv_topi (fun z315 ez315 => ?_)
          have lz315 := Int32.le_toInt z315
          have uz315 := Int32.toInt_lt z315
          have rz315 : z315.toInt = dp na274 z314 := by rw [ez315]; rfl
          refine px_calli (pr := [wdP cs h r g tf ta pf273 na274 ma275 wa251 cf ca ef ea xf xa]) (px_runS (As := [.int z292, .int z315]) (rest := [.int z291, .int 1, .int v277, .ref (r 23)]) S (c_mp_deeper l D cs  z292 z315   _) hT (pr := [wdP cs h r g tf ta pf273 na274 ma275 wa251 cf ca ef ea xf xa]) (pcs := []) hw px_X.tt m12_49 m12_47 m12_48 m1_21 q_Mpg_deeper ⟨show 0 + 1 ≤ (8 * lv + 19) from (by first | exact oz_11aebc2b0b | omega), show 8 + (2 + 11) + 0 ≤ (220 * lv + 690) from (by first | exact oz_a5526f1e7e | omega)⟩ hl.1 rfl (Nat.le_of_ble_eq_true rfl) d_Mpg_conditional_131 ⟨Nat.le_of_ble_eq_true rfl, Nat.le_of_ble_eq_true rfl⟩) hw hA (fun v317 p316 H locs hp316 hw => ?_)
          obtain ⟨rfl, e318, e319, e320, e321⟩ := hp316
          have e318 : z292.toInt ≤ v317.toInt := e318
          have e319 : z315.toInt ≤ v317.toInt := e319
          have e320 : v317.toInt = z292.toInt ∨ v317.toInt = z315.toInt := e320
          have e321 : R_mp_deeper z292 z315 v317 := e321
          have hw : pw D A s.heap H locs [wdP cs h r g tf ta pf273 na274 ma275 wa251 cf ca ef ea xf xa] := hw
          have lv317 := Int32.le_toInt v317
          have uv317 := Int32.toInt_lt v317
          refine px_calli (pr := [wdP cs h r g tf ta pf273 na274 ma275 wa251 cf ca ef ea xf xa]) (px_runS (As := [.int z291, .int v317]) (rest := [.int 1, .int v277, .ref (r 23)]) S (c_mp_deeper l D cs  z291 v317   _) hT (pr := [wdP cs h r g tf ta pf273 na274 ma275 wa251 cf ca ef ea xf xa]) (pcs := []) hw px_X.tt m12_49 m12_47 m12_48 m1_21 q_Mpg_deeper ⟨show 0 + 1 ≤ (8 * lv + 19) from (by first | exact oz_11aebc2b0b | omega), show 8 + (2 + 11) + 0 ≤ (220 * lv + 690) from (by first | exact oz_a5526f1e7e | omega)⟩ hl.1 rfl (Nat.le_of_ble_eq_true rfl) d_Mpg_conditional_134 ⟨Nat.le_of_ble_eq_true rfl, Nat.le_of_ble_eq_true rfl⟩) hw hA (fun v323 p322 H locs hp322 hw => ?_)
          obtain ⟨rfl, e324, e325, e326, e327⟩ := hp322
          have e324 : z291.toInt ≤ v323.toInt := e324
          have e325 : v317.toInt ≤ v323.toInt := e325
          have e326 : v323.toInt = z291.toInt ∨ v323.toInt = v317.toInt := e326
          have e327 : R_mp_deeper z291 v317 v323 := e327
          have hw : pw D A s.heap H locs [wdP cs h r g tf ta pf273 na274 ma275 wa251 cf ca ef ea xf xa] := hw
          have lv323 := Int32.le_toInt v323
          have uv323 := Int32.toInt_lt v323
          refine lv_iadd S.x S.b d_Mpg_conditional_137 ?_
          refine lv_topi (fun z328 ez328 => ?_)
          have tz328 : z328.toInt = ((1 : Int) + v323.toInt + 2147483648) % 4294967296 - 2147483648 := by rw [ez328]; exact i_add 1 v323
          have lz328 := Int32.le_toInt z328
          have uz328 := Int32.toInt_lt z328
          try replace tz328 : z328.toInt = (1 : Int) + v323.toInt := by omega
          refine px_iast S hT hw 0 19 (n := 2100) (f := (na274 23)) (x := v277) (y := z328) rfl gp_23 (vp_in_iff.mpr (by constructor <;> omega)) d_Mpg_conditional_138 (w' := wdP cs h r g tf ta pf273 (va_up na274 23 (upd (na274 23) v277.toNatClampNeg z328)) ma275 wa251 cf ca ef ea xf xa) (ps' := [wdP cs h r g tf ta pf273 (va_up na274 23 (upd (na274 23) v277.toNatClampNeg z328)) ma275 wa251 cf ca ef ea xf xa]) sp_23 rfl (fun H locs hw => ?_)
          refine lv_aload_n S.x S.b d_Mpg_conditional_139 rfl (lv_at hl 6 rfl) ?_
          refine px_get S k_Mpg hT hw 0 0 16 (v := .ref (r 16)) rfl rfl rfl (by decide) m10_0 d_Mpg_conditional_140 ?_
          refine lv_iload S.x S.b d_Mpg_conditional_143 (lv_at hl 0 rfl) ?_
          refine lv_iload_n S.x S.b d_Mpg_conditional_145 rfl (lv_at hl 5 rfl) ?_
          refine px_iast S hT hw 0 12 (n := 2100) (f := ((va_up na274 23 (upd (na274 23) v277.toNatClampNeg z328)) 16)) (x := v277) (y := (pf 11)) rfl gp_16 (vp_in_iff.mpr (by constructor <;> omega)) d_Mpg_conditional_146 (w' := wdP cs h r g tf ta pf273 (va_up (va_up na274 23 (upd (na274 23) v277.toNatClampNeg z328)) 16 (upd ((va_up na274 23 (upd (na274 23) v277.toNatClampNeg z328)) 16) v277.toNatClampNeg (pf 11))) ma275 wa251 cf ca ef ea xf xa) (ps' := [wdP cs h r g tf ta pf273 (va_up (va_up na274 23 (upd (na274 23) v277.toNatClampNeg z328)) 16 (upd ((va_up na274 23 (upd (na274 23) v277.toNatClampNeg z328)) 16) v277.toNatClampNeg (pf 11))) ma275 wa251 cf ca ef ea xf xa]) sp_16 rfl (fun H locs hw => ?_)
          refine lv_aload_n S.x S.b d_Mpg_conditional_147 rfl (lv_at hl 6 rfl) ?_
          refine px_get S k_Mpg hT hw 0 0 17 (v := .ref (r 17)) rfl rfl rfl (by decide) m10_1 d_Mpg_conditional_148 ?_
          refine lv_iload S.x S.b d_Mpg_conditional_151 (lv_at hl 0 rfl) ?_
          refine lv_iload_n S.x S.b d_Mpg_conditional_153 rfl (lv_at hl 4 rfl) ?_
          refine lv_if_ge (tgt := 163) S.x S.b d_Mpg_conditional_154 (by decide) (fun c329 => ?_) (fun c329 => ?_)
          · have nc329 : (0 : Int) ≤ v10.toInt := (i_le (x := 0) (y := v10)).mp c329
            exfalso
            omega
          · have nc329 : ¬ (0 : Int) ≤ v10.toInt := mt (i_le (x := 0) (y := v10)).mpr c329
            refine lv_iconst (v := (-1)) S.x S.b d_Mpg_conditional_157 (by decide) ?_
            refine lv_iload_n S.x S.b d_Mpg_conditional_158 rfl (lv_at hl 4 rfl) ?_
            refine lv_isub S.x S.b d_Mpg_conditional_159 ?_
            refine lv_topi (fun z331 ez331 => ?_)
            have tz331 : z331.toInt = ((-1 : Int) - v10.toInt + 2147483648) % 4294967296 - 2147483648 := by rw [ez331]; exact i_sub (-1) v10
            have lz331 := Int32.le_toInt z331
            have uz331 := Int32.toInt_lt z331
            try replace tz331 : z331.toInt = (-1 : Int) - v10.toInt := by omega
            have hsz331 : z184 = z331 := i_eq.mpr (by omega); subst hsz331
            refine lv_goto (tgt := 164) S.x S.b d_Mpg_conditional_160 (by decide) ?_
            refine px_iast S hT hw 0 13 (n := 2100) (f := ((va_up (va_up na274 23 (upd (na274 23) v277.toNatClampNeg z328)) 16 (upd ((va_up na274 23 (upd (na274 23) v277.toNatClampNeg z328)) 16) v277.toNatClampNeg (pf 11))) 17)) (x := v277) (y := z184) rfl gp_17 (vp_in_iff.mpr (by constructor <;> omega)) d_Mpg_conditional_164 (w' := wdP cs h r g tf ta pf273 (va_up (va_up (va_up na274 23 (upd (na274 23) v277.toNatClampNeg z328)) 16 (upd ((va_up na274 23 (upd (na274 23) v277.toNatClampNeg z328)) 16) v277.toNatClampNeg (pf 11))) 17 (upd ((va_up (va_up na274 23 (upd (na274 23) v277.toNatClampNeg z328)) 16 (upd ((va_up na274 23 (upd (na274 23) v277.toNatClampNeg z328)) 16) v277.toNatClampNeg (pf 11))) 17) v277.toNatClampNeg z184)) ma275 wa251 cf ca ef ea xf xa) (ps' := [wdP cs h r g tf ta pf273 (va_up (va_up (va_up na274 23 (upd (na274 23) v277.toNatClampNeg z328)) 16 (upd ((va_up na274 23 (upd (na274 23) v277.toNatClampNeg z328)) 16) v277.toNatClampNeg (pf 11))) 17 (upd ((va_up (va_up na274 23 (upd (na274 23) v277.toNatClampNeg z328)) 16 (upd ((va_up na274 23 (upd (na274 23) v277.toNatClampNeg z328)) 16) v277.toNatClampNeg (pf 11))) 17) v277.toNatClampNeg z184)) ma275 wa251 cf ca ef ea xf xa]) sp_17 rfl (fun H locs hw => ?_)
            refine lv_aload_n S.x S.b d_Mpg_conditional_165 rfl (lv_at hl 6 rfl) ?_
            refine px_get S k_Mpg hT hw 0 0 18 (v := .ref (r 18)) rfl rfl rfl (by decide) m10_3 d_Mpg_conditional_166 ?_
            refine lv_iload S.x S.b d_Mpg_conditional_169 (lv_at hl 0 rfl) ?_
            refine lv_iload S.x S.b d_Mpg_conditional_171 (lv_at hl 2 rfl) ?_
            refine px_iast S hT hw 0 14 (n := 2100) (f := (ma275 18)) (x := v277) (y := v213) rfl gp_18 (vp_in_iff.mpr (by constructor <;> omega)) d_Mpg_conditional_173 (w' := wdP cs h r g tf ta pf273 (va_up (va_up (va_up na274 23 (upd (na274 23) v277.toNatClampNeg z328)) 16 (upd ((va_up na274 23 (upd (na274 23) v277.toNatClampNeg z328)) 16) v277.toNatClampNeg (pf 11))) 17 (upd ((va_up (va_up na274 23 (upd (na274 23) v277.toNatClampNeg z328)) 16 (upd ((va_up na274 23 (upd (na274 23) v277.toNatClampNeg z328)) 16) v277.toNatClampNeg (pf 11))) 17) v277.toNatClampNeg z184)) (va_up ma275 18 (upd (ma275 18) v277.toNatClampNeg v213)) wa251 cf ca ef ea xf xa) (ps' := [wdP cs h r g tf ta pf273 (va_up (va_up (va_up na274 23 (upd (na274 23) v277.toNatClampNeg z328)) 16 (upd ((va_up na274 23 (upd (na274 23) v277.toNatClampNeg z328)) 16) v277.toNatClampNeg (pf 11))) 17 (upd ((va_up (va_up na274 23 (upd (na274 23) v277.toNatClampNeg z328)) 16 (upd ((va_up na274 23 (upd (na274 23) v277.toNatClampNeg z328)) 16) v277.toNatClampNeg (pf 11))) 17) v277.toNatClampNeg z184)) (va_up ma275 18 (upd (ma275 18) v277.toNatClampNeg v213)) wa251 cf ca ef ea xf xa]) sp_18 rfl (fun H locs hw => ?_)
            refine lv_aload_n S.x S.b d_Mpg_conditional_174 rfl (lv_at hl 6 rfl) ?_
            refine px_get S k_Mpg hT hw 0 0 19 (v := .ref (r 19)) rfl rfl rfl (by decide) m10_5 d_Mpg_conditional_175 ?_
            refine lv_iload S.x S.b d_Mpg_conditional_178 (lv_at hl 0 rfl) ?_
            refine lv_iload S.x S.b d_Mpg_conditional_180 (lv_at hl 1 rfl) ?_
            refine lv_if_ge (tgt := 192) S.x S.b d_Mpg_conditional_182 (by decide) (fun c332 => ?_) (fun c332 => ?_)
            · have nc332 : (0 : Int) ≤ v253.toInt := (i_le (x := 0) (y := v253)).mp c332
              exfalso
              omega
            · have nc332 : ¬ (0 : Int) ≤ v253.toInt := mt (i_le (x := 0) (y := v253)).mpr c332
              refine lv_iconst (v := (-1)) S.x S.b d_Mpg_conditional_185 (by decide) ?_
              refine lv_iload S.x S.b d_Mpg_conditional_186 (lv_at hl 1 rfl) ?_
              refine lv_isub S.x S.b d_Mpg_conditional_188 ?_
              refine lv_topi (fun z334 ez334 => ?_)
              have tz334 : z334.toInt = ((-1 : Int) - v253.toInt + 2147483648) % 4294967296 - 2147483648 := by rw [ez334]; exact i_sub (-1) v253
              have lz334 := Int32.le_toInt z334
              have uz334 := Int32.toInt_lt z334
              try replace tz334 : z334.toInt = (-1 : Int) - v253.toInt := by omega
              have hsz334 : z314 = z334 := i_eq.mpr (by omega); subst hsz334
              refine lv_goto (tgt := 194) S.x S.b d_Mpg_conditional_189 (by decide) ?_
              refine px_iast S hT hw 0 15 (n := 2100) (f := ((va_up ma275 18 (upd (ma275 18) v277.toNatClampNeg v213)) 19)) (x := v277) (y := z314) rfl gp_19 (vp_in_iff.mpr (by constructor <;> omega)) d_Mpg_conditional_194 (w' := wdP cs h r g tf ta pf273 (va_up (va_up (va_up na274 23 (upd (na274 23) v277.toNatClampNeg z328)) 16 (upd ((va_up na274 23 (upd (na274 23) v277.toNatClampNeg z328)) 16) v277.toNatClampNeg (pf 11))) 17 (upd ((va_up (va_up na274 23 (upd (na274 23) v277.toNatClampNeg z328)) 16 (upd ((va_up na274 23 (upd (na274 23) v277.toNatClampNeg z328)) 16) v277.toNatClampNeg (pf 11))) 17) v277.toNatClampNeg z184)) (va_up (va_up ma275 18 (upd (ma275 18) v277.toNatClampNeg v213)) 19 (upd ((va_up ma275 18 (upd (ma275 18) v277.toNatClampNeg v213)) 19) v277.toNatClampNeg z314)) wa251 cf ca ef ea xf xa) (ps' := [wdP cs h r g tf ta pf273 (va_up (va_up (va_up na274 23 (upd (na274 23) v277.toNatClampNeg z328)) 16 (upd ((va_up na274 23 (upd (na274 23) v277.toNatClampNeg z328)) 16) v277.toNatClampNeg (pf 11))) 17 (upd ((va_up (va_up na274 23 (upd (na274 23) v277.toNatClampNeg z328)) 16 (upd ((va_up na274 23 (upd (na274 23) v277.toNatClampNeg z328)) 16) v277.toNatClampNeg (pf 11))) 17) v277.toNatClampNeg z184)) (va_up (va_up ma275 18 (upd (ma275 18) v277.toNatClampNeg v213)) 19 (upd ((va_up ma275 18 (upd (ma275 18) v277.toNatClampNeg v213)) 19) v277.toNatClampNeg z314)) wa251 cf ca ef ea xf xa]) sp_19 rfl (fun H locs hw => ?_)
              refine lv_iload S.x S.b d_Mpg_conditional_195 (lv_at hl 0 rfl) ?_
              exact th_iret (v := v277) S hr rfl hlk hAe hw (⟨pf273, (va_up (va_up (va_up na274 23 (upd (na274 23) v277.toNatClampNeg z328)) 16 (upd ((va_up na274 23 (upd (na274 23) v277.toNatClampNeg z328)) 16) v277.toNatClampNeg (pf 11))) 17 (upd ((va_up (va_up na274 23 (upd (na274 23) v277.toNatClampNeg z328)) 16 (upd ((va_up na274 23 (upd (na274 23) v277.toNatClampNeg z328)) 16) v277.toNatClampNeg (pf 11))) 17) v277.toNatClampNeg z184)), (va_up (va_up ma275 18 (upd (ma275 18) v277.toNatClampNeg v213)) 19 (upd ((va_up ma275 18 (upd (ma275 18) v277.toNatClampNeg v213)) 19) v277.toNatClampNeg z314)), wa251, rfl, (show (pf 11).toInt + 1 ≤ (pf273 11).toInt from by first | exact oz_a94dab7bd6 e11 e280 e193 e254 e214 e235 | omega), (show (pf273 11).toInt < (tf 6).toInt from by first | exact oz_5d2fbac15b e255 e280 | omega), (show (pf 13).toInt + 1 ≤ (pf273 13).toInt from by first | exact oz_51872157b0 e13 e279 e199 e256 e216 e239 | omega), (show (pf273 13).toInt - (pf 13).toInt ≤ (pf273 11).toInt - (pf 11).toInt from by first | exact oz_e4ee09b645 e14 e279 e280 e193 e199 e257 e217 e235 e239 | omega), (show bp ta (pf 11) + 1 ≤ bp ta (pf273 11) from by first | exact oz_5a9929be88 e15 qb2871 e195 e258 e196 e218 e237 | omega), (show (pf273 12).toInt = (pf 12).toInt from by first | exact oz_9e0ebf2891 e16 e281 e197 tz269 e219 e259 e238 | omega), (show (pf273 24).toInt = (pf 24).toInt from by first | exact oz_a783471c71 e17 e282 e200 e260 e220 e240 | omega), (show (pf273 25).toInt = (pf 25).toInt from by first | exact oz_a783471c71 e18 e283 e201 e261 e221 e241 | omega), (show (pf273 26).toInt = (pf 26).toInt from by first | exact oz_a783471c71 e19 e284 e202 e262 e222 e242 | omega), (show FrB (pf 13).toInt na ma (va_up (va_up (va_up na274 23 (upd (na274 23) v277.toNatClampNeg z328)) 16 (upd ((va_up na274 23 (upd (na274 23) v277.toNatClampNeg z328)) 16) v277.toNatClampNeg (pf 11))) 17 (upd ((va_up (va_up na274 23 (upd (na274 23) v277.toNatClampNeg z328)) 16 (upd ((va_up na274 23 (upd (na274 23) v277.toNatClampNeg z328)) 16) v277.toNatClampNeg (pf 11))) 17) v277.toNatClampNeg z184)) (va_up (va_up ma275 18 (upd (ma275 18) v277.toNatClampNeg v213)) 19 (upd ((va_up ma275 18 (upd (ma275 18) v277.toNatClampNeg v213)) 19) v277.toNatClampNeg z314)) from (FrB.um (FrB.um (FrB.un (FrB.un (FrB.un hfb (by omega) (by omega)) (by omega) (by omega)) (by omega) (by omega)) (by omega) (by omega)) (by omega) (by omega))), (show FrW (pf 26).toInt wa wa251 from hfw), (show ExD ta (tf 6).toInt (va_up (va_up (va_up na274 23 (upd (na274 23) v277.toNatClampNeg z328)) 16 (upd ((va_up na274 23 (upd (na274 23) v277.toNatClampNeg z328)) 16) v277.toNatClampNeg (pf 11))) 17 (upd ((va_up (va_up na274 23 (upd (na274 23) v277.toNatClampNeg z328)) 16 (upd ((va_up na274 23 (upd (na274 23) v277.toNatClampNeg z328)) 16) v277.toNatClampNeg (pf 11))) 17) v277.toNatClampNeg z184)) (va_up (va_up ma275 18 (upd (ma275 18) v277.toNatClampNeg v213)) 19 (upd ((va_up ma275 18 (upd (ma275 18) v277.toNatClampNeg v213)) 19) v277.toNatClampNeg z314)) v277 (pf 13).toInt (pf273 13).toInt (3 * (bp ta (pf273 11) - bp ta (pf 11))) (pf 12).toInt from (exd_of (ExR.le (exr_cond (ExR.le ht_z184 (Int.le_refl _) (by omega) (Int.le_refl _) (Int.le_refl _)) (ExR.le ht_v213 (Int.le_refl _) (by omega) (Int.le_refl _) (by omega)) ht_z314 (by omega) (by omega) (fun x hx => ⟨fun j => by rw [up_far hx, up_far hx, up_far hx], fun j => by rw [up_far hx, up_far hx]⟩) (by rw [va_up_n (by decide), va_up_n (by decide), va_up_n (by decide), hnk_v277.1]; rfl) (ndt_of (by rw [va_up_n (by decide), va_up_n (by decide), va_up_n (by decide), hnk_v277.2.1]) (by omega) (by omega) (by omega)) (by rw [va_up_s, pk_us]) (by rw [va_up_n (by decide), va_up_s, pk_us]) (by rw [va_up_s, pk_us]) (by rw [dp_un (by decide), dp_un (by decide), dp_us]; refine ⟨?_, ?_, ?_⟩ <;> omega) (by rw [dp_un (by decide), dp_un (by decide), dp_us]; omega) ⟨(by rw [va_up_n (by decide), va_up_n (by decide), va_up_n (by decide), hnk_v277.2.2.1]; decide), (by rw [va_up_n (by decide), va_up_n (by decide), hnk_v277.2.2.2.2]; decide)⟩ (by omega)) (by omega) (by omega) (by omega) (Int.le_refl _)) (by omega))), (show FsI (tf 6).toInt (pf273 13).toInt (va_up (va_up (va_up na274 23 (upd (na274 23) v277.toNatClampNeg z328)) 16 (upd ((va_up na274 23 (upd (na274 23) v277.toNatClampNeg z328)) 16) v277.toNatClampNeg (pf 11))) 17 (upd ((va_up (va_up na274 23 (upd (na274 23) v277.toNatClampNeg z328)) 16 (upd ((va_up na274 23 (upd (na274 23) v277.toNatClampNeg z328)) 16) v277.toNatClampNeg (pf 11))) 17) v277.toNatClampNeg z184)) from (FsI.le (FsI.un (FsI.us (FsI.un hfs (by decide)) (by omega) (by omega)) (by decide)) (by omega))), (show R_mp_conditional (RL_mp_expression lv) (RL_mp_conditional lv) ta pf na ma wa pf273 (va_up (va_up (va_up na274 23 (upd (na274 23) v277.toNatClampNeg z328)) 16 (upd ((va_up na274 23 (upd (na274 23) v277.toNatClampNeg z328)) 16) v277.toNatClampNeg (pf 11))) 17 (upd ((va_up (va_up na274 23 (upd (na274 23) v277.toNatClampNeg z328)) 16 (upd ((va_up na274 23 (upd (na274 23) v277.toNatClampNeg z328)) 16) v277.toNatClampNeg (pf 11))) 17) v277.toNatClampNeg z184)) (va_up (va_up ma275 18 (upd (ma275 18) v277.toNatClampNeg v213)) 19 (upd ((va_up ma275 18 (upd (ma275 18) v277.toNatClampNeg v213)) 19) v277.toNatClampNeg z314)) wa251 v277 0 from (Or.inl (Or.inr ⟨pf5, na6, ma7, wa8, v10, e24, v29, e32, Or.inl ⟨nc33, Or.inr ⟨nc35, z184, ez184, Or.inr ⟨e188, Or.inr ⟨pf190, e203, Or.inr ⟨pf208, na209, ma210, wa211, v213, e227L, Or.inr ⟨pf232, e243, Or.inr ⟨pf248, na249, ma250, wa251, v253, e267L, z269, ez269, pf273, na274, ma275, v277, e286, nc288, z184, ez290, z291, ez291, z292, ez292, Or.inr ⟨nc293, z314, ez314, z315, ez315, v317, e321, v323, e327, z328, ez328, nc329, z184, ez331, nc332, z314, ez334, rfl, rfl, rfl, rfl, rfl, rfl⟩⟩⟩⟩⟩⟩⟩⟩⟩)))⟩) d_Mpg_conditional_197
  · have nc33 : v29.toInt = (0 : Int) := (i_eq (x := v29) (y := 0)).mp c33
    refine lv_iload_n S.x S.b d_Mpg_conditional_19 rfl (lv_at hl 0 rfl) ?_
    exact th_iret (v := v10) S hr rfl hlk hAe hw (⟨pf5, na6, ma7, wa8, rfl, (show (pf 11).toInt + 1 ≤ (pf5 11).toInt from by first | exact e11 | omega), (show (pf5 11).toInt < (tf 6).toInt from by first | exact e12 | omega), (show (pf 13).toInt + 1 ≤ (pf5 13).toInt from by first | exact e13 | omega), (show (pf5 13).toInt - (pf 13).toInt ≤ (pf5 11).toInt - (pf 11).toInt from by first | exact e14 | omega), (show bp ta (pf 11) + 1 ≤ bp ta (pf5 11) from by first | exact e15 | omega), (show (pf5 12).toInt = (pf 12).toInt from by first | exact e16 | omega), (show (pf5 24).toInt = (pf 24).toInt from by first | exact e17 | omega), (show (pf5 25).toInt = (pf 25).toInt from by first | exact e18 | omega), (show (pf5 26).toInt = (pf 26).toInt from by first | exact e19 | omega), (show FrB (pf 13).toInt na ma na6 ma7 from hfb), (show FrW (pf 26).toInt wa wa8 from hfw), (show ExD ta (tf 6).toInt na6 ma7 v10 (pf 13).toInt (pf5 13).toInt (3 * (bp ta (pf5 11) - bp ta (pf 11))) (pf 12).toInt from (ExD.le hxd_v10 (by omega) (by omega) (by omega) (by omega))), (show FsI (tf 6).toInt (pf5 13).toInt na6 from (FsI.le hfs (by omega))), (show R_mp_conditional (RL_mp_expression lv) (RL_mp_conditional lv) ta pf na ma wa pf5 na6 ma7 wa8 v10 0 from (Or.inl (Or.inr ⟨pf5, na6, ma7, wa8, v10, e24, v29, e32, Or.inr ⟨nc33, rfl, rfl, rfl, rfl, rfl, rfl⟩⟩)))⟩) d_Mpg_conditional_20
