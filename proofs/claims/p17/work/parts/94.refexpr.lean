theorem oz_2f9b555558 {a0 a1 a2 a3 : Int} (h0 : a1 + 1 ≤ a0) (h1 : a1 = a2) (h2 : a3 < (a2)) (h3 : -1 - (a2) < a3) : 0 ≤ a0 := by omega
theorem oz_d0b5d74417 {a0 a1 a2 a3 a4 a5 a6 a7 a8 : Int} (h0 : a0 - a1 ≤ a2 - a3) (h1 : a3 = a4 + 1) (h2 : a1 = a5) (h3 : a2 < a6) (h4 : a6 ≤ 2049) (h5 : a5 - a7 ≤ a4 - a8) (h6 : a7 ≤ a8 + 20) : a0 < 2100 := by omega
theorem oz_04467542c7 {a0 a1 a2 a3 a4 a5 a6 a7 a8 : Int} (h0 : a0 = (-1 : Int) - a1) (h1 : ¬ (0 : Int) ≤ a1) (h2 : -1 - (a2) < a1) (h3 : a2 - a3 ≤ a4 - a5) (h4 : a3 ≤ a5 + 20) (h5 : a6 = a4 + 1) (h6 : a7 ≤ 2049) (h7 : a6 + 1 ≤ a8) (h8 : a8 < a7) : 0 ≤ a0 ∧ a0 < ((2100 : Nat) : Int) := by omega
theorem oz_cbc53fb126 {a0 a1 a2 a3 a4 : Int} (h0 : a0 + 1 ≤ a2) (h1 : a1 = a3) (h2 : a4 = a2 + 1) (h3 : a4 + 1 ≤ a3) : a0 + 1 ≤ a1 := by omega
theorem oz_5cb147f4a7 {a0 a1 a2 a3 a4 : Int} (h0 : a0 + 1 ≤ a2) (h1 : a1 = a3 + 1) (h2 : a4 = a2) (h3 : a4 + 1 ≤ a3) : a0 + 1 ≤ a1 := by omega
theorem oz_a87d71a883 {a0 a1 a2 a3 a4 a5 a6 a7 a8 a9 : Int} (h0 : a4 - a1 ≤ a5 - a3) (h1 : a0 = a6 + 1) (h2 : a2 = a7) (h3 : a8 = a5 + 1) (h4 : a9 = a4) (h5 : a6 - a9 ≤ a7 - a8) : a0 - a1 ≤ a2 - a3 := by omega
theorem oz_cb260e6882 {a0 a1 a2 a3 a4 a5 : Int} (h0 : a2 = a1) (h1 : a0 = a3) (h2 : a4 = a2 + 1) (h3 : a3 = a5 - (1 : Int)) (h4 : a5 = a4) : a0 = a1 := by omega
theorem m12_39 : Cond.methodLink "HomeSystemModel$Program" 396 ⟨"HomeSystemModel$Program", "isAssigning", "()Z"⟩ ∈ AL := AL_12 (List.mem_of_getElem? (i := 39) rfl) rfl
theorem m12_42 : Cond.code ⟨"HomeSystemModel$Program", "isAssigning", "()Z"⟩ prog_16_method_29_code 2 (Option.some FieldType.boolean) ∈ AL := AL_12 (List.mem_of_getElem? (i := 42) rfl) rfl
theorem ms_9_12 : Cond.selects "HomeSystemModel$Program" ⟨"HomeSystemModel$Program", "isAssigning", "()Z"⟩ ⟨"HomeSystemModel$Program", "isAssigning", "()Z"⟩ ∈ AL := AL_p (q := (⟨"HomeSystemModel$Program", "isAssigning", "()Z"⟩, 69)) (by unfold lw_privs; exact List.mem_append_right _ (List.mem_append_right _ (List.mem_append_right _ (List.mem_append_right _ (List.mem_append_right _ (List.mem_append_right _ (List.mem_append_right _ (List.mem_append_right _ (List.mem_append_left _ (List.mem_of_getElem? (i := 12) rfl))))))))))
theorem m12_41 : Cond.instanceMethod ⟨"HomeSystemModel$Program", "isAssigning", "()Z"⟩ ∈ AL := AL_12 (List.mem_of_getElem? (i := 41) rfl) rfl
set_option maxHeartbeats 4000000 in
set_option maxRecDepth 100000 in
theorem c_mp_expression (l : Launch) (D : va_G) (cs : Nat → ClassId) (h : Nat) (r : Nat → Nat) (g : Nat → Nat → Option Nat) (tf : Nat → Int32) (ta : Nat → Nat → Int32) (cf : Nat → Int32) (ca : Nat → Nat → Int32) (ef : Nat → Int32) (ea : Nat → Nat → Int32) (xf : Nat → Int32) (xa : Nat → Nat → Int32) (pf : Nat → Int32) (na : Nat → Nat → Int32) (ma : Nat → Nat → Int32) (wa : Nat → Nat → Int32) (lv : Nat) (g0 : 0 ≤ (pf 11).toInt) (g1 : (pf 11).toInt < (tf 6).toInt) (g2 : (tf 6).toInt ≤ 2049) (g3 : 0 ≤ (pf 12).toInt) (g4 : (pf 12).toInt ≤ 60) (g5 : 0 ≤ (pf 13).toInt) (g6 : (pf 13).toInt ≤ (pf 11).toInt + 20) (g7 : 0 ≤ (pf 26).toInt) (g8 : (pf 26).toInt ≤ (pf 12).toInt) (g9 : 61 ≤ (pf 12).toInt + (lv : Int)) (g10 : lv ≤ 61) (hlf : l.flags = pinnedFlags ++ [noTraceFlag]) (htk : TkI tf ta) (hfs : FsI (tf 6).toInt (pf 13).toInt na) (hE : LvE l D cs lv) : ThI l y_Mpg_expression b_Mpg_expression 7 (.int) D cs (8 * lv + 20) (220 * lv + 720) [.ref h] [wdP cs h r g tf ta pf na ma wa cf ca ef ea xf xa] (oX (fun A U H => (oN A U H) ∧ (oP A g U H)) [wdP cs h r g tf ta pf na ma wa cf ca ef ea xf xa]) "java/lang/IllegalArgumentException" (fun v ps => ∃ (pf' : Nat → Int32) (na' : Nat → Nat → Int32) (ma' : Nat → Nat → Int32) (wa' : Nat → Nat → Int32), (ps = [wdP cs h r g tf ta pf' na' ma' wa' cf ca ef ea xf xa]) ∧ ((pf 11).toInt + 1 ≤ (pf' 11).toInt) ∧ ((pf' 11).toInt < (tf 6).toInt) ∧ ((pf 13).toInt + 1 ≤ (pf' 13).toInt) ∧ ((pf' 13).toInt - (pf 13).toInt ≤ (pf' 11).toInt - (pf 11).toInt) ∧ (bp ta (pf 11) + 1 ≤ bp ta (pf' 11)) ∧ ((pf' 12).toInt = (pf 12).toInt) ∧ ((pf' 24).toInt = (pf 24).toInt) ∧ ((pf' 25).toInt = (pf 25).toInt) ∧ ((pf' 26).toInt = (pf 26).toInt) ∧ (FrB (pf 13).toInt na ma na' ma') ∧ (FrW (pf 26).toInt wa wa') ∧ (ExR ta (tf 6).toInt na' ma' v (pf 13).toInt (pf' 13).toInt (3 * (bp ta (pf' 11) - bp ta (pf 11))) (pf 12).toInt) ∧ (FsI (tf 6).toInt (pf' 13).toInt na')) (fun ps => ∃ (pf' : Nat → Int32) (na' : Nat → Nat → Int32) (ma' : Nat → Nat → Int32) (wa' : Nat → Nat → Int32), ps = [wdP cs h r g tf ta pf' na' ma' wa' cf ca ef ea xf xa] ∧ 0 ≤ (pf' 11).toInt ∧ (pf' 11).toInt + 1 ≤ (tf 6).toInt) := by
  refine th_enter (by decide) (Nat.le_of_ble_eq_true rfl) ?_
  intro p e s m below meth c A ls hAe S hr hlk hnm hA hT hX hw hl hne hadm
  have hl : lv_has ls 7 [(0, .ref h)] := hl
  have cstm1 : ((-1) : Int32).toInt = (-1) := rfl
  have cst0 : (0 : Int32).toInt = 0 := rfl
  have cst1 : (1 : Int32).toInt = 1 := rfl
  have cst9 : (9 : Int32).toInt = 9 := rfl
  have hX : (fun A U H => (oN A U H) ∧ (oP A g U H)) A s s.heap := by rw [hAe]; exact hX
  obtain ⟨hN, hP⟩ := hX
  have hZ := hP.1
  have hF0 := hP.2.1
  have hfb : FrB (pf 13).toInt na ma na ma := FrB.rf
  have hfw : FrW (pf 26).toInt wa wa := FrW.rf
  refine lv_aload_n S.x S.b d_Mpg_expression_0 rfl (lv_at hl 0 rfl) ?_
  refine px_get S k_Mpg hT hw 0 0 11 (v := .int (pf 11)) rfl rfl rfl (by decide) m9_235 d_Mpg_expression_1 ?_
  refine lv_istore_n (lv' := [(1, .int (pf 11)), (0, .ref h)]) S.x S.b d_Mpg_expression_4 rfl hl (by decide) rfl (fun ls hl => ?_)
  refine lv_aload_n S.x S.b d_Mpg_expression_5 rfl (lv_at hl 1 rfl) ?_
  refine th_calli (ps0 := [wdP cs h r g tf ta pf na ma wa cf ca ef ea xf xa]) (pr := []) (pcs := [wdP cs h r g tf ta pf na ma wa cf ca ef ea xf xa]) (As := []) (rest := []) (c_mp_conditional l D cs h r g tf ta cf ca ef ea xf xa pf na ma wa  lv (show 0 ≤ (pf 11).toInt from by first | exact g0 | omega) (show (pf 11).toInt < (tf 6).toInt from by first | exact g1 | omega) (show (tf 6).toInt ≤ 2049 from by first | exact g2 | omega) (show 0 ≤ (pf 12).toInt from by first | exact g3 | omega) (show (pf 12).toInt ≤ 60 from by first | exact g4 | omega) (show 0 ≤ (pf 13).toInt from by first | exact g5 | omega) (show (pf 13).toInt ≤ (pf 11).toInt + 20 from by first | exact g6 | omega) (show 0 ≤ (pf 26).toInt from by first | exact g7 | omega) (show (pf 26).toInt ≤ (pf 12).toInt from by first | exact g8 | omega) (show 61 ≤ (pf 12).toInt + (lv : Int) from by first | exact g9 | omega) (show lv ≤ 61 from by first | exact g10 | omega) hlf htk (FsI.le (N' := (pf 13).toInt) hfs (by first | with_reducible rfl | with_reducible assumption | omega)) hE) S hT hw (oX_call (P := (fun A U H => (oN A U H) ∧ (oP A g U H))) (pr := []) (oG_and oG_N oG_P) hw hA ⟨hN, hP⟩) (px_recv hT hw 0 0 rfl rfl rfl) m12_14 m12_11 m12_13 ms_9_5 m1_21 q_Mpg_conditional ⟨show (8 * lv + 19) + 1 ≤ (8 * lv + 20) from by first | with_reducible rfl | with_reducible assumption | omega, show 8 + (7 + 11) + (220 * lv + 690) ≤ (220 * lv + 720) from by first | with_reducible rfl | with_reducible assumption | omega⟩ hl.1 rfl (Nat.le_of_ble_eq_true rfl) d_Mpg_expression_6 ⟨Nat.le_of_ble_eq_true rfl, Nat.le_of_ble_eq_true rfl⟩ hne hlk hA hAe (fun o t h => Or.inr h) ?_ (fun v10 p9 H locs hp9 hw => ?_)
  · exact fun p1 H1 locs1 hp hw => by obtain ⟨pq1, pq2, pq3, pq4, rfl, hq1, hq2⟩ := hp; exact ⟨_, ⟨pq1, pq2, pq3, pq4, rfl, hq1, hq2⟩, hw⟩
  obtain ⟨pf5, na6, ma7, wa8, rfl, e11, e12, e13, e14, e15, e16, e17, e18, e19, e20, e21, e22, e23⟩ := hp9
  have e11 : (pf 11).toInt + 1 ≤ (pf5 11).toInt := e11
  have e12 : (pf5 11).toInt < (tf 6).toInt := e12
  have e13 : (pf 13).toInt + 1 ≤ (pf5 13).toInt := e13
  have e14 : (pf5 13).toInt - (pf 13).toInt ≤ (pf5 11).toInt - (pf 11).toInt := e14
  have e15 : bp ta (pf 11) + 1 ≤ bp ta (pf5 11) := e15
  have e16 : (pf5 12).toInt = (pf 12).toInt := e16
  have e17 : (pf5 24).toInt = (pf 24).toInt := e17
  have e18 : (pf5 25).toInt = (pf 25).toInt := e18
  have e19 : (pf5 26).toInt = (pf 26).toInt := e19
  have e20 : FrB (pf 13).toInt na ma na6 ma7 := e20
  have hfb := hfb.tr e20 (by first | with_reducible rfl | with_reducible assumption | omega)
  have e21 : FrW (pf 26).toInt wa wa8 := e21
  have hfw := hfw.tr e21 (by first | with_reducible rfl | with_reducible assumption | omega)
  have e22 : ExD ta (tf 6).toInt na6 ma7 v10 (pf 13).toInt (pf5 13).toInt (3 * (bp ta (pf5 11) - bp ta (pf 11))) (pf 12).toInt := e22
  have hxd_v10 := e22
  have hnx_v10 := hxd_v10.num
  have e23 : FsI (tf 6).toInt (pf5 13).toInt na6 := e23
  have hfs := e23
  have hw : pw D A s.heap H locs [wdP cs h r g tf ta pf5 na6 ma7 wa8 cf ca ef ea xf xa] := hw
  have lv10 := Int32.le_toInt v10
  have uv10 := Int32.toInt_lt v10
  refine lv_istore_n (lv' := [(2, .int v10), (1, .int (pf 11)), (0, .ref h)]) S.x S.b d_Mpg_expression_9 rfl hl (by decide) rfl (fun ls hl => ?_)
  refine lv_iload_n S.x S.b d_Mpg_expression_10 rfl (lv_at hl 0 rfl) ?_
  refine lv_if_ge (tgt := 18) S.x S.b d_Mpg_expression_11 (by decide) (fun c24 => ?_) (fun c24 => ?_)
  · have nc24 : (0 : Int) ≤ v10.toInt := (i_le (x := 0) (y := v10)).mp c24
    refine lv_iconst (v := 0) S.x S.b d_Mpg_expression_18 (by decide) ?_
    refine lv_istore_n (lv' := [(3, .int 0), (2, .int v10), (1, .int (pf 11)), (0, .ref h)]) S.x S.b d_Mpg_expression_19 rfl hl (by decide) rfl (fun ls hl => ?_)
    refine lv_iload_n S.x S.b d_Mpg_expression_20 rfl (lv_at hl 0 rfl) ?_
    refine lv_if_eq (tgt := 30) S.x S.b d_Mpg_expression_21 (by decide) (fun c25 => ?_) (fun c25 => ?_)
    ·
      refine lv_iload_n S.x S.b d_Mpg_expression_30 rfl (lv_at hl 1 rfl) ?_
      have ht_v10 := hxd_v10.pos (by first | with_reducible rfl | with_reducible assumption | omega); have hn_ht_v10 := ht_v10.num
      refine lv_istore_n (lv' := [(2, .int v10), (3, .int 0), (1, .int (pf 11)), (0, .ref h)]) S.x S.b d_Mpg_expression_31 rfl hl (by decide) rfl (fun ls hl => ?_)
      refine lv_aload_n S.x S.b d_Mpg_expression_32 rfl (lv_at hl 3 rfl) ?_
      refine px_calli (pr := []) (px_runV (As := []) (rest := []) S (c_mp_isAssigning l D cs h r g tf ta pf5 na6 ma7 wa8 cf ca ef ea xf xa   (show 0 ≤ (pf5 11).toInt from by first | exact oz_06d7f15a5c e11 g0 | omega) (show (pf5 11).toInt < (tf 6).toInt from by first | exact e12 | omega) (show (tf 6).toInt ≤ 2049 from by first | exact g2 | omega) htk _) hT (pr := []) (pcs := [wdP cs h r g tf ta pf5 na6 ma7 wa8 cf ca ef ea xf xa]) hw (oX_call (P := (fun A U H => (oP A g U H))) (pr := []) oG_P hw hA hP) (px_recv hT hw 0 0 rfl rfl rfl) m12_42 m12_39 m12_41 ms_9_12 m1_21 q_Mpg_isAssigning ⟨show 4 + 1 ≤ (8 * lv + 20) from by first | with_reducible rfl | with_reducible assumption | omega, show 8 + (2 + 11) + 160 ≤ (220 * lv + 720) from by first | with_reducible rfl | with_reducible assumption | omega⟩ hl.1 rfl (Nat.le_of_ble_eq_true rfl) d_Mpg_expression_33 ⟨Nat.le_of_ble_eq_true rfl, Nat.le_of_ble_eq_true rfl⟩) hw hA (fun v27 p26 H locs hp26 hw => ?_)
      obtain ⟨rfl, e28, e29⟩ := hp26
      have e28 := z_rng e28
      have e29 : v27.toInt = 1 → (pf5 11).toInt + 1 < (tf 6).toInt ∧ so ta (pf5 11) = 5 := e29
      have hw : pw D A s.heap H locs [wdP cs h r g tf ta pf5 na6 ma7 wa8 cf ca ef ea xf xa] := hw
      have lv27 := Int32.le_toInt v27
      have uv27 := Int32.toInt_lt v27
      refine lv_if_eq (tgt := 137) S.x S.b d_Mpg_expression_36 (by decide) (fun c30 => ?_) (fun c30 => ?_)
      · have nc30 : v27.toInt = (0 : Int) := (i_eq (x := v27) (y := 0)).mp c30
        refine lv_iload_n S.x S.b d_Mpg_expression_137 rfl (lv_at hl 0 rfl) ?_
        exact th_iret (v := v10) S hr rfl hlk hAe hw (⟨pf5, na6, ma7, wa8, rfl, (show (pf 11).toInt + 1 ≤ (pf5 11).toInt from by first | exact e11 | omega), (show (pf5 11).toInt < (tf 6).toInt from by first | exact e12 | omega), (show (pf 13).toInt + 1 ≤ (pf5 13).toInt from by first | exact e13 | omega), (show (pf5 13).toInt - (pf 13).toInt ≤ (pf5 11).toInt - (pf 11).toInt from by first | exact e14 | omega), (show bp ta (pf 11) + 1 ≤ bp ta (pf5 11) from by first | exact e15 | omega), (show (pf5 12).toInt = (pf 12).toInt from by first | exact e16 | omega), (show (pf5 24).toInt = (pf 24).toInt from by first | exact e17 | omega), (show (pf5 25).toInt = (pf 25).toInt from by first | exact e18 | omega), (show (pf5 26).toInt = (pf 26).toInt from by first | exact e19 | omega), (show FrB (pf 13).toInt na ma na6 ma7 from hfb), (show FrW (pf 26).toInt wa wa8 from hfw), (show ExR ta (tf 6).toInt na6 ma7 v10 (pf 13).toInt (pf5 13).toInt (3 * (bp ta (pf5 11) - bp ta (pf 11))) (pf 12).toInt from (ExR.le ht_v10 (by first | with_reducible rfl | with_reducible assumption | omega) (by first | with_reducible rfl | with_reducible assumption | omega) (by first | with_reducible rfl | with_reducible assumption | omega) (by first | with_reducible rfl | with_reducible assumption | omega))), (show FsI (tf 6).toInt (pf5 13).toInt na6 from (FsI.le hfs (by first | with_reducible rfl | with_reducible assumption | omega)))⟩) d_Mpg_expression_138
      · have nc30 : ¬ v27.toInt = (0 : Int) := mt (i_eq (x := v27) (y := 0)).mpr c30
        refine lv_iload_n S.x S.b d_Mpg_expression_39 rfl (lv_at hl 1 rfl) ?_
        refine lv_if_eq (tgt := 137) S.x S.b d_Mpg_expression_40 (by decide) (fun c31 => ?_) (fun c31 => ?_)
        ·
          refine lv_iload_n S.x S.b d_Mpg_expression_137 rfl (lv_at hl 0 rfl) ?_
          exact th_iret (v := v10) S hr rfl hlk hAe hw (⟨pf5, na6, ma7, wa8, rfl, (show (pf 11).toInt + 1 ≤ (pf5 11).toInt from by first | exact e11 | omega), (show (pf5 11).toInt < (tf 6).toInt from by first | exact e12 | omega), (show (pf 13).toInt + 1 ≤ (pf5 13).toInt from by first | exact e13 | omega), (show (pf5 13).toInt - (pf 13).toInt ≤ (pf5 11).toInt - (pf 11).toInt from by first | exact e14 | omega), (show bp ta (pf 11) + 1 ≤ bp ta (pf5 11) from by first | exact e15 | omega), (show (pf5 12).toInt = (pf 12).toInt from by first | exact e16 | omega), (show (pf5 24).toInt = (pf 24).toInt from by first | exact e17 | omega), (show (pf5 25).toInt = (pf 25).toInt from by first | exact e18 | omega), (show (pf5 26).toInt = (pf 26).toInt from by first | exact e19 | omega), (show FrB (pf 13).toInt na ma na6 ma7 from hfb), (show FrW (pf 26).toInt wa wa8 from hfw), (show ExR ta (tf 6).toInt na6 ma7 v10 (pf 13).toInt (pf5 13).toInt (3 * (bp ta (pf5 11) - bp ta (pf 11))) (pf 12).toInt from (ExR.le ht_v10 (by first | with_reducible rfl | with_reducible assumption | omega) (by first | with_reducible rfl | with_reducible assumption | omega) (by first | with_reducible rfl | with_reducible assumption | omega) (by first | with_reducible rfl | with_reducible assumption | omega))), (show FsI (tf 6).toInt (pf5 13).toInt na6 from (FsI.le hfs (by first | with_reducible rfl | with_reducible assumption | omega)))⟩) d_Mpg_expression_138
        · exact absurd c31 (by decide)
    · exact absurd c25 (by decide)
  · have nc24 : ¬ (0 : Int) ≤ v10.toInt := mt (i_le (x := 0) (y := v10)).mpr c24
    refine lv_iconst (v := 1) S.x S.b d_Mpg_expression_14 (by decide) ?_
    refine lv_goto (tgt := 19) S.x S.b d_Mpg_expression_15 (by decide) ?_
    refine lv_istore_n (lv' := [(3, .int 1), (2, .int v10), (1, .int (pf 11)), (0, .ref h)]) S.x S.b d_Mpg_expression_19 rfl hl (by decide) rfl (fun ls hl => ?_)
    refine lv_iload_n S.x S.b d_Mpg_expression_20 rfl (lv_at hl 0 rfl) ?_
    refine lv_if_eq (tgt := 30) S.x S.b d_Mpg_expression_21 (by decide) (fun c32 => ?_) (fun c32 => ?_)
    · exact absurd c32 (by decide)
    ·
      refine lv_iconst (v := (-1)) S.x S.b d_Mpg_expression_24 (by decide) ?_
      refine lv_iload_n S.x S.b d_Mpg_expression_25 rfl (lv_at hl 1 rfl) ?_
      refine lv_isub S.x S.b d_Mpg_expression_26 ?_
      refine lv_topi (fun z33 ez33 => ?_)
      have tz33 : z33.toInt = ((-1 : Int) - v10.toInt + 2147483648) % 4294967296 - 2147483648 := by rw [ez33]; exact i_sub (-1) v10
      have lz33 := Int32.le_toInt z33
      have uz33 := Int32.toInt_lt z33
      try replace tz33 : z33.toInt = (-1 : Int) - v10.toInt := by omega
      have ht_z33 := hxd_v10.neg (z := z33) (by first | with_reducible rfl | with_reducible assumption | omega) (by first | with_reducible rfl | with_reducible assumption | omega); have hn_ht_z33 := ht_z33.num
      refine lv_goto (tgt := 31) S.x S.b d_Mpg_expression_27 (by decide) ?_
      refine lv_istore_n (lv' := [(2, .int z33), (3, .int 1), (1, .int (pf 11)), (0, .ref h)]) S.x S.b d_Mpg_expression_31 rfl hl (by decide) rfl (fun ls hl => ?_)
      refine lv_aload_n S.x S.b d_Mpg_expression_32 rfl (lv_at hl 3 rfl) ?_
      refine px_calli (pr := []) (px_runV (As := []) (rest := []) S (c_mp_isAssigning l D cs h r g tf ta pf5 na6 ma7 wa8 cf ca ef ea xf xa   (show 0 ≤ (pf5 11).toInt from by first | exact oz_06d7f15a5c e11 g0 | omega) (show (pf5 11).toInt < (tf 6).toInt from by first | exact e12 | omega) (show (tf 6).toInt ≤ 2049 from by first | exact g2 | omega) htk _) hT (pr := []) (pcs := [wdP cs h r g tf ta pf5 na6 ma7 wa8 cf ca ef ea xf xa]) hw (oX_call (P := (fun A U H => (oP A g U H))) (pr := []) oG_P hw hA hP) (px_recv hT hw 0 0 rfl rfl rfl) m12_42 m12_39 m12_41 ms_9_12 m1_21 q_Mpg_isAssigning ⟨show 4 + 1 ≤ (8 * lv + 20) from by first | with_reducible rfl | with_reducible assumption | omega, show 8 + (2 + 11) + 160 ≤ (220 * lv + 720) from by first | with_reducible rfl | with_reducible assumption | omega⟩ hl.1 rfl (Nat.le_of_ble_eq_true rfl) d_Mpg_expression_33 ⟨Nat.le_of_ble_eq_true rfl, Nat.le_of_ble_eq_true rfl⟩) hw hA (fun v35 p34 H locs hp34 hw => ?_)
      obtain ⟨rfl, e36, e37⟩ := hp34
      have e36 := z_rng e36
      have e37 : v35.toInt = 1 → (pf5 11).toInt + 1 < (tf 6).toInt ∧ so ta (pf5 11) = 5 := e37
      have hw : pw D A s.heap H locs [wdP cs h r g tf ta pf5 na6 ma7 wa8 cf ca ef ea xf xa] := hw
      have lv35 := Int32.le_toInt v35
      have uv35 := Int32.toInt_lt v35
      refine lv_if_eq (tgt := 137) S.x S.b d_Mpg_expression_36 (by decide) (fun c38 => ?_) (fun c38 => ?_)
      · have nc38 : v35.toInt = (0 : Int) := (i_eq (x := v35) (y := 0)).mp c38
        refine lv_iload_n S.x S.b d_Mpg_expression_137 rfl (lv_at hl 0 rfl) ?_
        exact th_iret (v := z33) S hr rfl hlk hAe hw (⟨pf5, na6, ma7, wa8, rfl, (show (pf 11).toInt + 1 ≤ (pf5 11).toInt from by first | exact e11 | omega), (show (pf5 11).toInt < (tf 6).toInt from by first | exact e12 | omega), (show (pf 13).toInt + 1 ≤ (pf5 13).toInt from by first | exact e13 | omega), (show (pf5 13).toInt - (pf 13).toInt ≤ (pf5 11).toInt - (pf 11).toInt from by first | exact e14 | omega), (show bp ta (pf 11) + 1 ≤ bp ta (pf5 11) from by first | exact e15 | omega), (show (pf5 12).toInt = (pf 12).toInt from by first | exact e16 | omega), (show (pf5 24).toInt = (pf 24).toInt from by first | exact e17 | omega), (show (pf5 25).toInt = (pf 25).toInt from by first | exact e18 | omega), (show (pf5 26).toInt = (pf 26).toInt from by first | exact e19 | omega), (show FrB (pf 13).toInt na ma na6 ma7 from hfb), (show FrW (pf 26).toInt wa wa8 from hfw), (show ExR ta (tf 6).toInt na6 ma7 z33 (pf 13).toInt (pf5 13).toInt (3 * (bp ta (pf5 11) - bp ta (pf 11))) (pf 12).toInt from (ExR.le ht_z33 (by first | with_reducible rfl | with_reducible assumption | omega) (by first | with_reducible rfl | with_reducible assumption | omega) (by first | with_reducible rfl | with_reducible assumption | omega) (by first | with_reducible rfl | with_reducible assumption | omega))), (show FsI (tf 6).toInt (pf5 13).toInt na6 from (FsI.le hfs (by first | with_reducible rfl | with_reducible assumption | omega)))⟩) d_Mpg_expression_138
      · have nc38 : ¬ v35.toInt = (0 : Int) := mt (i_eq (x := v35) (y := 0)).mpr c38
        refine lv_iload_n S.x S.b d_Mpg_expression_39 rfl (lv_at hl 1 rfl) ?_
        refine lv_if_eq (tgt := 137) S.x S.b d_Mpg_expression_40 (by decide) (fun c39 => ?_) (fun c39 => ?_)
        · exact absurd c39 (by decide)
        ·
          refine lv_aload_n S.x S.b d_Mpg_expression_43 rfl (lv_at hl 3 rfl) ?_
          refine px_get S k_Mpg hT hw 0 0 11 (v := .int (pf5 11)) rfl rfl rfl (by decide) m9_235 d_Mpg_expression_44 ?_
          refine lv_istore (lv' := [(4, .int (pf5 11)), (2, .int z33), (3, .int 1), (1, .int (pf 11)), (0, .ref h)]) S.x S.b d_Mpg_expression_47 hl (by decide) rfl (fun ls hl => ?_)
          refine lv_aload_n S.x S.b d_Mpg_expression_49 rfl (lv_at hl 4 rfl) ?_
          refine lv_iload_n S.x S.b d_Mpg_expression_50 rfl (lv_at hl 1 rfl) ?_
          refine th_callv (ps0 := [wdP cs h r g tf ta pf na ma wa cf ca ef ea xf xa]) (pr := []) (pcs := [wdP cs h r g tf ta pf5 na6 ma7 wa8 cf ca ef ea xf xa]) (As := [.int z33]) (rest := []) (c_mp_stands l D cs h r g tf ta pf5 na6 ma7 wa8 cf ca ef ea xf xa z33  (show 0 ≤ (pf5 11).toInt from by first | exact oz_06d7f15a5c e11 g0 | omega) (show (pf5 11).toInt < (tf 6).toInt from by first | exact e12 | omega) (show 0 ≤ z33.toInt from by first | exact oz_26151178c9 tz33 nc24 | omega) (show z33.toInt < 2100 from by first | exact oz_96c024f2ca tz33 hnx_v10.2 e14 g6 e12 g2 | omega) (show 0 ≤ dp na6 z33 from by first | with_reducible rfl | with_reducible assumption | omega) (show dp na6 z33 ≤ 1000 from by first | with_reducible rfl | with_reducible assumption | omega) (show 0 ≤ (pf5 12).toInt from by first | exact oz_f3ebed1ad0 e16 g3 | omega) (show (pf5 12).toInt ≤ 60 from by first | exact oz_a3db38fa3c e16 g4 | omega) hlf htk) S hT hw (oX_call (P := (fun A U H => (oN A U H) ∧ (oP A g U H))) (pr := []) (oG_and oG_N oG_P) hw hA ⟨hN, hP⟩) (px_recv hT hw 0 0 rfl rfl rfl) m12_46 m12_43 m12_45 ms_9_13 m1_21 q_Mpg_stands2 ⟨show 7 + 1 ≤ (8 * lv + 20) from by first | with_reducible rfl | with_reducible assumption | omega, show 8 + (2 + 11) + 150 ≤ (220 * lv + 720) from by first | with_reducible rfl | with_reducible assumption | omega⟩ hl.1 rfl (Nat.le_of_ble_eq_true rfl) d_Mpg_expression_51 ⟨Nat.le_of_ble_eq_true rfl, Nat.le_of_ble_eq_true rfl⟩ hne hlk hA hAe (fun o t h => Or.inr h) ?_ (fun p40 H locs hp40 hw => ?_)
          · exact fun p1 H1 locs1 hp hw => by obtain ⟨pq1, pq2, pq3, pq4, rfl, hq1, hq2⟩ := hp; exact ⟨_, ⟨pq1, pq2, pq3, pq4, rfl, hq1, hq2⟩, hw⟩
          obtain ⟨rfl, e42⟩ := hp40
          have e42 : (pf5 12).toInt + dp na6 z33 < 60 := e42
          have hw : pw D A s.heap H locs [wdP cs h r g tf ta pf5 na6 ma7 wa8 cf ca ef ea xf xa] := hw
          refine lv_aload_n S.x S.b d_Mpg_expression_54 rfl (lv_at hl 4 rfl) ?_
          refine th_callv (ps0 := [wdP cs h r g tf ta pf na ma wa cf ca ef ea xf xa]) (pr := []) (pcs := [wdP cs h r g tf ta pf5 na6 ma7 wa8 cf ca ef ea xf xa]) (As := []) (rest := []) (c_mp_opens l D cs h r g tf ta na6 ma7 wa8 cf ca ef ea xf xa pf5   (show 0 ≤ (pf5 11).toInt from by first | exact oz_06d7f15a5c e11 g0 | omega) (show (pf5 11).toInt < (tf 6).toInt from by first | exact e12 | omega) (show (tf 6).toInt ≤ 2049 from by first | exact g2 | omega) (show (pf5 11).toInt + 1 < (tf 6).toInt from by first | with_reducible rfl | with_reducible assumption | omega) (show 0 ≤ (pf5 12).toInt from by first | exact oz_f3ebed1ad0 e16 g3 | omega) (show (pf5 12).toInt ≤ 60 from by first | exact oz_a3db38fa3c e16 g4 | omega) hlf htk) S hT hw (oX_call (P := (fun A U H => (oN A U H) ∧ (oP A g U H))) (pr := []) (oG_and oG_N oG_P) hw hA ⟨hN, hP⟩) (px_recv hT hw 0 0 rfl rfl rfl) m11_238 m11_235 m11_237 ms_9_1 m1_21 q_Mpg_opens ⟨show 7 + 1 ≤ (8 * lv + 20) from by first | with_reducible rfl | with_reducible assumption | omega, show 8 + (1 + 11) + 150 ≤ (220 * lv + 720) from by first | with_reducible rfl | with_reducible assumption | omega⟩ hl.1 rfl (Nat.le_of_ble_eq_true rfl) d_Mpg_expression_55 ⟨Nat.le_of_ble_eq_true rfl, Nat.le_of_ble_eq_true rfl⟩ hne hlk hA hAe (fun o t h => Or.inr h) ?_ (fun p45 H locs hp45 hw => ?_)
          · exact fun p1 H1 locs1 hp hw => by obtain ⟨pq1, pq2, pq3, pq4, rfl, hq1, hq2⟩ := hp; exact ⟨_, ⟨pq1, pq2, pq3, pq4, rfl, hq1, hq2⟩, hw⟩
          obtain ⟨pf44, rfl, e47, e48, e49, e50, e51, e52, e53, e54, e55, e56⟩ := hp45
          have e47 : (pf44 11).toInt = (pf5 11).toInt + 1 := e47
          have e48 : (pf44 11).toInt < (tf 6).toInt := e48
          have e49 : bp ta (pf5 11) + sz ta (pf5 11) ≤ bp ta (pf44 11) := e49
          have e50 : 1 ≤ sz ta (pf5 11) := e50
          have e51 : (pf44 12).toInt = (pf5 12).toInt + 1 := e51
          have e52 : (pf5 12).toInt < 60 := e52
          have e53 : (pf44 13).toInt = (pf5 13).toInt := e53
          have e54 : (pf44 24).toInt = (pf5 24).toInt := e54
          have e55 : (pf44 25).toInt = (pf5 25).toInt := e55
          have e56 : (pf44 26).toInt = (pf5 26).toInt := e56
          have hw : pw D A s.heap H locs [wdP cs h r g tf ta pf44 na6 ma7 wa8 cf ca ef ea xf xa] := hw
          refine lv_aload_n S.x S.b d_Mpg_expression_58 rfl (lv_at hl 4 rfl) ?_
          refine th_calli (ps0 := [wdP cs h r g tf ta pf na ma wa cf ca ef ea xf xa]) (pr := []) (pcs := [wdP cs h r g tf ta pf44 na6 ma7 wa8 cf ca ef ea xf xa]) (As := []) (rest := []) ((hE.go (by first | with_reducible rfl | with_reducible assumption | omega)).1 h r g tf ta cf ca ef ea xf xa pf44 na6 ma7 wa8   (show 0 ≤ (pf44 11).toInt from by first | exact oz_184ed96a99 e47 e11 g0 | omega) (show (pf44 11).toInt < (tf 6).toInt from by first | exact e48 | omega) (show (tf 6).toInt ≤ 2049 from by first | exact g2 | omega) (show 0 ≤ (pf44 12).toInt from by first | exact oz_87be06313f e51 e16 g8 g7 | omega) (show (pf44 12).toInt ≤ 60 from by first | exact oz_6710fd9021 e51 e52 | omega) (show 0 ≤ (pf44 13).toInt from by first | exact oz_bd8959faaf e53 hnx_v10.1 hnx_v10.2 | omega) (show (pf44 13).toInt ≤ (pf44 11).toInt + 20 from by first | exact oz_815a17a6fa e47 e53 e14 g6 | omega) (show 0 ≤ (pf44 26).toInt from by first | exact oz_e2fef14871 e56 e19 g7 | omega) (show (pf44 26).toInt ≤ (pf44 12).toInt from by first | exact oz_e919e29b70 e51 e56 e16 e19 g8 | omega) (show 61 ≤ (pf44 12).toInt + ((lv - 1 : Nat) : Int) from by first | with_reducible rfl | with_reducible assumption | omega) (show lv - 1 ≤ 61 from by first | with_reducible rfl | with_reducible assumption | omega) hlf htk (FsI.le (N' := (pf44 13).toInt) hfs (by first | with_reducible rfl | with_reducible assumption | omega))) S hT hw (oX_call (P := (fun A U H => (oN A U H) ∧ (oP A g U H))) (pr := []) (oG_and oG_N oG_P) hw hA ⟨hN, hP⟩) (px_recv hT hw 0 0 rfl rfl rfl) m12_38 m12_35 m12_37 ms_9_11 m1_21 q_Mpg_expression ⟨show (8 * (lv - 1) + 20) + 1 ≤ (8 * lv + 20) from by first | with_reducible rfl | with_reducible assumption | omega, show 8 + (7 + 11) + (220 * (lv - 1) + 720) ≤ (220 * lv + 720) from by first | with_reducible rfl | with_reducible assumption | omega⟩ hl.1 rfl (Nat.le_of_ble_eq_true rfl) d_Mpg_expression_59 ⟨Nat.le_of_ble_eq_true rfl, Nat.le_of_ble_eq_true rfl⟩ hne hlk hA hAe (fun o t h => Or.inr h) ?_ (fun v66 p65 H locs hp65 hw => ?_)
          · exact fun p1 H1 locs1 hp hw => by obtain ⟨pq1, pq2, pq3, pq4, rfl, hq1, hq2⟩ := hp; exact ⟨_, ⟨pq1, pq2, pq3, pq4, rfl, hq1, hq2⟩, hw⟩
          obtain ⟨pf61, na62, ma63, wa64, rfl, e67, e68, e69, e70, e71, e72, e73, e74, e75, e76, e77, e78, e79⟩ := hp65
          have e67 : (pf44 11).toInt + 1 ≤ (pf61 11).toInt := e67
          have e68 : (pf61 11).toInt < (tf 6).toInt := e68
          have e69 : (pf44 13).toInt + 1 ≤ (pf61 13).toInt := e69
          have e70 : (pf61 13).toInt - (pf44 13).toInt ≤ (pf61 11).toInt - (pf44 11).toInt := e70
          have e71 : bp ta (pf44 11) + 1 ≤ bp ta (pf61 11) := e71
          have e72 : (pf61 12).toInt = (pf44 12).toInt := e72
          have e73 : (pf61 24).toInt = (pf44 24).toInt := e73
          have e74 : (pf61 25).toInt = (pf44 25).toInt := e74
          have e75 : (pf61 26).toInt = (pf44 26).toInt := e75
          have e76 : FrB (pf44 13).toInt na6 ma7 na62 ma63 := e76
          have ht_z33 := ht_z33.kp (FrB.le e76 (by first | with_reducible rfl | with_reducible assumption | omega)) (by first | with_reducible rfl | with_reducible assumption | omega)
          have hn_ht_z33 := ht_z33.num
          have hdq_z33 := dp_fb (x := z33) e76 (by first | with_reducible rfl | with_reducible assumption | omega) (by first | with_reducible rfl | with_reducible assumption | omega)
          have hxd_v10 := hxd_v10.kp (FrB.le e76 (by first | with_reducible rfl | with_reducible assumption | omega)) (by first | with_reducible rfl | with_reducible assumption | omega)
          have hfb := hfb.tr e76 (by first | with_reducible rfl | with_reducible assumption | omega)
          have e77 : FrW (pf44 26).toInt wa8 wa64 := e77
          have hfw := hfw.tr e77 (by first | with_reducible rfl | with_reducible assumption | omega)
          have e78 : ExR ta (tf 6).toInt na62 ma63 v66 (pf44 13).toInt (pf61 13).toInt (3 * (bp ta (pf61 11) - bp ta (pf44 11))) (pf44 12).toInt := e78
          have ht_v66 := e78
          have hn_ht_v66 := ht_v66.num
          have e79 : FsI (tf 6).toInt (pf61 13).toInt na62 := e79
          have hfs := e79
          have hw : pw D A s.heap H locs [wdP cs h r g tf ta pf61 na62 ma63 wa64 cf ca ef ea xf xa] := hw
          have lv66 := Int32.le_toInt v66
          have uv66 := Int32.toInt_lt v66
          refine lv_istore (lv' := [(5, .int v66), (4, .int (pf5 11)), (2, .int z33), (3, .int 1), (1, .int (pf 11)), (0, .ref h)]) S.x S.b d_Mpg_expression_62 hl (by decide) rfl (fun ls hl => ?_)
          refine lv_aload_n S.x S.b d_Mpg_expression_64 rfl (lv_at hl 5 rfl) ?_
          refine lv_dup S.x S.b d_Mpg_expression_65 rfl ?_
          refine px_get S k_Mpg hT hw 0 0 12 (v := .int (pf61 12)) rfl rfl rfl (by decide) m9_236 d_Mpg_expression_66 ?_
          refine lv_iconst (v := 1) S.x S.b d_Mpg_expression_69 (by decide) ?_
          refine lv_isub S.x S.b d_Mpg_expression_70 ?_
          have lr80 := Int32.le_toInt (pf61 12)
          have ur80 := Int32.toInt_lt (pf61 12)
          refine lv_topi (fun z81 ez81 => ?_)
          have tz81 : z81.toInt = ((pf61 12).toInt - (1 : Int) + 2147483648) % 4294967296 - 2147483648 := by rw [ez81]; exact i_sub (pf61 12) 1
          have lz81 := Int32.le_toInt z81
          have uz81 := Int32.toInt_lt z81
          try replace tz81 : z81.toInt = (pf61 12).toInt - (1 : Int) := by omega
          refine px_put S k_Mpg hT hw 0 0 12 rfl rfl (by decide) m9_236 rfl rfl rfl (Nat.le_of_ble_eq_true rfl) d_Mpg_expression_71 (w' := wdP cs h r g tf ta (upd pf61 12 z81) na62 ma63 wa64 cf ca ef ea xf xa) (ps' := [wdP cs h r g tf ta (upd pf61 12 z81) na62 ma63 wa64 cf ca ef ea xf xa]) rfl rfl (fun H locs hw => ?_)
          refine lv_aload_n S.x S.b d_Mpg_expression_74 rfl (lv_at hl 5 rfl) ?_
          refine lv_bipush (v := 9) S.x S.b d_Mpg_expression_75 (by decide) ?_
          refine lv_iload S.x S.b d_Mpg_expression_77 (lv_at hl 1 rfl) ?_
          refine px_calli (pr := []) (px_runV (As := [.int 9, .int (pf5 11)]) (rest := []) S (c_mp_make l D cs h r g tf ta wa64 cf ca ef ea xf xa (upd pf61 12 z81) na62 ma63 9 (pf5 11)  (show 0 ≤ (pf61 13).toInt from by first | exact oz_2f9b555558 e69 e53 hnx_v10.1 hnx_v10.2 | omega) (show (pf61 13).toInt < 2100 from by first | exact oz_d0b5d74417 e70 e47 e53 e68 g2 e14 g6 | omega) _) hT (pr := []) (pcs := [wdP cs h r g tf ta (upd pf61 12 z81) na62 ma63 wa64 cf ca ef ea xf xa]) hw px_X.tt (px_recv hT hw 0 0 rfl rfl rfl) m11_209 m11_206 m11_208 ms_8_12 m1_21 q_Mpg_make ⟨show 0 + 1 ≤ (8 * lv + 20) from by first | with_reducible rfl | with_reducible assumption | omega, show 8 + (3 + 11) + 0 ≤ (220 * lv + 720) from by first | with_reducible rfl | with_reducible assumption | omega⟩ hl.1 rfl (Nat.le_of_ble_eq_true rfl) d_Mpg_expression_79 ⟨Nat.le_of_ble_eq_true rfl, Nat.le_of_ble_eq_true rfl⟩) hw hA (fun v89 p88 H locs hp88 hw => ?_)
          obtain ⟨pf85, na86, ma87, rfl, e90, e91, e92, e93, e94, e95, e96, e97⟩ := hp88
          have e90 : v89.toInt = (pf61 13).toInt := e90
          have e91 : (pf85 13).toInt = (pf61 13).toInt + 1 := e91
          have e92 : (pf85 11).toInt = (pf61 11).toInt := e92
          have e93 : (pf85 12).toInt = z81.toInt := e93
          have e94 : (pf85 24).toInt = (pf61 24).toInt := e94
          have e95 : (pf85 25).toInt = (pf61 25).toInt := e95
          have e96 : (pf85 26).toInt = (pf61 26).toInt := e96
          have e97 : MkN na62 ma63 na86 ma87 v89 (9 : Int32) (pf5 11) := e97
          obtain ⟨qb981, qb982, qb983, qb984⟩ := tk_eq (ta := ta) (x := (pf85 11)) (y := (pf61 11)) (by first | with_reducible rfl | with_reducible assumption | omega)
          have hmk_v89 := e97
          have hfm_v89 := MkN.frb (b := v89.toInt) hmk_v89 (by first | with_reducible rfl | with_reducible assumption | omega) (by first | with_reducible rfl | with_reducible assumption | omega)
          have ht_z33 := ht_z33.kp (FrB.le hfm_v89 (by first | with_reducible rfl | with_reducible assumption | omega)) (by first | with_reducible rfl | with_reducible assumption | omega)
          have hn_ht_z33 := ht_z33.num
          have hdq_z33 := dp_fb (x := z33) hfm_v89 (by first | with_reducible rfl | with_reducible assumption | omega) (by first | with_reducible rfl | with_reducible assumption | omega)
          have ht_v66 := ht_v66.kp (FrB.le hfm_v89 (by first | with_reducible rfl | with_reducible assumption | omega)) (by first | with_reducible rfl | with_reducible assumption | omega)
          have hn_ht_v66 := ht_v66.num
          have hdq_v66 := dp_fb (x := v66) hfm_v89 (by first | with_reducible rfl | with_reducible assumption | omega) (by first | with_reducible rfl | with_reducible assumption | omega)
          have hxd_v10 := hxd_v10.kp (FrB.le hfm_v89 (by first | with_reducible rfl | with_reducible assumption | omega)) (by first | with_reducible rfl | with_reducible assumption | omega)
          have hfs := FsI.mk hfs hmk_v89 (by first | with_reducible rfl | with_reducible assumption | omega) (by first | with_reducible rfl | with_reducible assumption | omega) (by first | with_reducible rfl | with_reducible assumption | omega) (by first | with_reducible rfl | with_reducible assumption | omega)
          have hfb := hfb.tr hfm_v89 (by first | with_reducible rfl | with_reducible assumption | omega)
          have hnk_v89 := hmk_v89.nk (by decide) (by decide) (by first | with_reducible rfl | with_reducible assumption | omega)
          have hdn_v89 := dp_nk hmk_v89
          have hw : pw D A s.heap H locs [wdP cs h r g tf ta pf85 na86 ma87 wa64 cf ca ef ea xf xa] := hw
          have lv89 := Int32.le_toInt v89
          have uv89 := Int32.toInt_lt v89
          refine lv_istore (lv' := [(6, .int v89), (5, .int v66), (4, .int (pf5 11)), (2, .int z33), (3, .int 1), (1, .int (pf 11)), (0, .ref h)]) S.x S.b d_Mpg_expression_82 hl (by decide) rfl (fun ls hl => ?_)
          refine lv_aload_n S.x S.b d_Mpg_expression_84 rfl (lv_at hl 6 rfl) ?_
          refine px_get S k_Mpg hT hw 0 0 23 (v := .ref (r 23)) rfl rfl rfl (by decide) m10_11 d_Mpg_expression_85 ?_
          refine lv_iload S.x S.b d_Mpg_expression_88 (lv_at hl 0 rfl) ?_
          refine lv_iconst (v := 1) S.x S.b d_Mpg_expression_90 (by decide) ?_
          refine lv_aload_n S.x S.b d_Mpg_expression_91 rfl (lv_at hl 6 rfl) ?_
          refine px_get S k_Mpg hT hw 0 0 23 (v := .ref (r 23)) rfl rfl rfl (by decide) m10_11 d_Mpg_expression_92 ?_
          refine lv_iload_n S.x S.b d_Mpg_expression_95 rfl (lv_at hl 3 rfl) ?_
          refine px_iald S hT hw 0 19 (n := 2100) (f := (na86 23)) rfl gp_23 (x := z33) (vp_in_iff.mpr (by first | exact oz_04467542c7 tz33 nc24 hnx_v10.2 e14 g6 e47 g2 e67 e68 | (constructor <;> omega))) d_Mpg_expression_96 ?_
          refine lv_topi (fun z99 ez99 => ?_)
          have lz99 := Int32.le_toInt z99
          have uz99 := Int32.toInt_lt z99
          have rz99 : z99.toInt = dp na86 z33 := by rw [ez99]; rfl
          refine lv_aload_n S.x S.b d_Mpg_expression_97 rfl (lv_at hl 6 rfl) ?_
          refine px_get S k_Mpg hT hw 0 0 23 (v := .ref (r 23)) rfl rfl rfl (by decide) m10_11 d_Mpg_expression_98 ?_
          refine lv_iload S.x S.b d_Mpg_expression_101 (lv_at hl 1 rfl) ?_
          refine px_iald S hT hw 0 19 (n := 2100) (f := (na86 23)) rfl gp_23 (x := v66) (vp_in_iff.mpr (by constructor <;> omega)) d_Mpg_expression_103 ?_
          refine lv_topi (fun z100 ez100 => ?_)
          have lz100 := Int32.le_toInt z100
          have uz100 := Int32.toInt_lt z100
          have rz100 : z100.toInt = dp na86 v66 := by rw [ez100]; rfl
          refine px_calli (pr := [wdP cs h r g tf ta pf85 na86 ma87 wa64 cf ca ef ea xf xa]) (px_runS (As := [.int z99, .int z100]) (rest := [.int 1, .int v89, .ref (r 23)]) S (c_mp_deeper l D cs  z99 z100   _) hT (pr := [wdP cs h r g tf ta pf85 na86 ma87 wa64 cf ca ef ea xf xa]) (pcs := []) hw px_X.tt m12_49 m12_47 m12_48 m1_21 q_Mpg_deeper ⟨show 0 + 1 ≤ (8 * lv + 20) from by first | with_reducible rfl | with_reducible assumption | omega, show 8 + (2 + 11) + 0 ≤ (220 * lv + 720) from by first | with_reducible rfl | with_reducible assumption | omega⟩ hl.1 rfl (Nat.le_of_ble_eq_true rfl) d_Mpg_expression_104 ⟨Nat.le_of_ble_eq_true rfl, Nat.le_of_ble_eq_true rfl⟩) hw hA (fun v102 p101 H locs hp101 hw => ?_)
          obtain ⟨rfl, e103, e104, e105⟩ := hp101
          have e103 : z99.toInt ≤ v102.toInt := e103
          have e104 : z100.toInt ≤ v102.toInt := e104
          have e105 : v102.toInt = z99.toInt ∨ v102.toInt = z100.toInt := e105
          have hw : pw D A s.heap H locs [wdP cs h r g tf ta pf85 na86 ma87 wa64 cf ca ef ea xf xa] := hw
          have lv102 := Int32.le_toInt v102
          have uv102 := Int32.toInt_lt v102
          refine lv_iadd S.x S.b d_Mpg_expression_107 ?_
          refine lv_topi (fun z106 ez106 => ?_)
          have tz106 : z106.toInt = ((1 : Int) + v102.toInt + 2147483648) % 4294967296 - 2147483648 := by rw [ez106]; exact i_add 1 v102
          have lz106 := Int32.le_toInt z106
          have uz106 := Int32.toInt_lt z106
          try replace tz106 : z106.toInt = (1 : Int) + v102.toInt := by omega
          refine px_iast S hT hw 0 19 (n := 2100) (f := (na86 23)) (x := v89) (y := z106) rfl gp_23 (vp_in_iff.mpr (by constructor <;> omega)) d_Mpg_expression_108 (w' := wdP cs h r g tf ta pf85 (va_up na86 23 (upd (na86 23) v89.toNatClampNeg z106)) ma87 wa64 cf ca ef ea xf xa) (ps' := [wdP cs h r g tf ta pf85 (va_up na86 23 (upd (na86 23) v89.toNatClampNeg z106)) ma87 wa64 cf ca ef ea xf xa]) sp_23 rfl (fun H locs hw => ?_)
          refine lv_aload_n S.x S.b d_Mpg_expression_109 rfl (lv_at hl 6 rfl) ?_
          refine px_get S k_Mpg hT hw 0 0 16 (v := .ref (r 16)) rfl rfl rfl (by decide) m10_0 d_Mpg_expression_110 ?_
          refine lv_iload S.x S.b d_Mpg_expression_113 (lv_at hl 0 rfl) ?_
          refine lv_iload_n S.x S.b d_Mpg_expression_115 rfl (lv_at hl 5 rfl) ?_
          refine px_iast S hT hw 0 12 (n := 2100) (f := ((va_up na86 23 (upd (na86 23) v89.toNatClampNeg z106)) 16)) (x := v89) (y := (pf 11)) rfl gp_16 (vp_in_iff.mpr (by constructor <;> omega)) d_Mpg_expression_116 (w' := wdP cs h r g tf ta pf85 (va_up (va_up na86 23 (upd (na86 23) v89.toNatClampNeg z106)) 16 (upd ((va_up na86 23 (upd (na86 23) v89.toNatClampNeg z106)) 16) v89.toNatClampNeg (pf 11))) ma87 wa64 cf ca ef ea xf xa) (ps' := [wdP cs h r g tf ta pf85 (va_up (va_up na86 23 (upd (na86 23) v89.toNatClampNeg z106)) 16 (upd ((va_up na86 23 (upd (na86 23) v89.toNatClampNeg z106)) 16) v89.toNatClampNeg (pf 11))) ma87 wa64 cf ca ef ea xf xa]) sp_16 rfl (fun H locs hw => ?_)
          refine lv_aload_n S.x S.b d_Mpg_expression_117 rfl (lv_at hl 6 rfl) ?_
          refine px_get S k_Mpg hT hw 0 0 17 (v := .ref (r 17)) rfl rfl rfl (by decide) m10_1 d_Mpg_expression_118 ?_
          refine lv_iload S.x S.b d_Mpg_expression_121 (lv_at hl 0 rfl) ?_
          refine lv_iload_n S.x S.b d_Mpg_expression_123 rfl (lv_at hl 3 rfl) ?_
          refine px_iast S hT hw 0 13 (n := 2100) (f := ((va_up (va_up na86 23 (upd (na86 23) v89.toNatClampNeg z106)) 16 (upd ((va_up na86 23 (upd (na86 23) v89.toNatClampNeg z106)) 16) v89.toNatClampNeg (pf 11))) 17)) (x := v89) (y := z33) rfl gp_17 (vp_in_iff.mpr (by constructor <;> omega)) d_Mpg_expression_124 (w' := wdP cs h r g tf ta pf85 (va_up (va_up (va_up na86 23 (upd (na86 23) v89.toNatClampNeg z106)) 16 (upd ((va_up na86 23 (upd (na86 23) v89.toNatClampNeg z106)) 16) v89.toNatClampNeg (pf 11))) 17 (upd ((va_up (va_up na86 23 (upd (na86 23) v89.toNatClampNeg z106)) 16 (upd ((va_up na86 23 (upd (na86 23) v89.toNatClampNeg z106)) 16) v89.toNatClampNeg (pf 11))) 17) v89.toNatClampNeg z33)) ma87 wa64 cf ca ef ea xf xa) (ps' := [wdP cs h r g tf ta pf85 (va_up (va_up (va_up na86 23 (upd (na86 23) v89.toNatClampNeg z106)) 16 (upd ((va_up na86 23 (upd (na86 23) v89.toNatClampNeg z106)) 16) v89.toNatClampNeg (pf 11))) 17 (upd ((va_up (va_up na86 23 (upd (na86 23) v89.toNatClampNeg z106)) 16 (upd ((va_up na86 23 (upd (na86 23) v89.toNatClampNeg z106)) 16) v89.toNatClampNeg (pf 11))) 17) v89.toNatClampNeg z33)) ma87 wa64 cf ca ef ea xf xa]) sp_17 rfl (fun H locs hw => ?_)
          refine lv_aload_n S.x S.b d_Mpg_expression_125 rfl (lv_at hl 6 rfl) ?_
          refine px_get S k_Mpg hT hw 0 0 18 (v := .ref (r 18)) rfl rfl rfl (by decide) m10_3 d_Mpg_expression_126 ?_
          refine lv_iload S.x S.b d_Mpg_expression_129 (lv_at hl 0 rfl) ?_
          refine lv_iload S.x S.b d_Mpg_expression_131 (lv_at hl 1 rfl) ?_
          refine px_iast S hT hw 0 14 (n := 2100) (f := (ma87 18)) (x := v89) (y := v66) rfl gp_18 (vp_in_iff.mpr (by constructor <;> omega)) d_Mpg_expression_133 (w' := wdP cs h r g tf ta pf85 (va_up (va_up (va_up na86 23 (upd (na86 23) v89.toNatClampNeg z106)) 16 (upd ((va_up na86 23 (upd (na86 23) v89.toNatClampNeg z106)) 16) v89.toNatClampNeg (pf 11))) 17 (upd ((va_up (va_up na86 23 (upd (na86 23) v89.toNatClampNeg z106)) 16 (upd ((va_up na86 23 (upd (na86 23) v89.toNatClampNeg z106)) 16) v89.toNatClampNeg (pf 11))) 17) v89.toNatClampNeg z33)) (va_up ma87 18 (upd (ma87 18) v89.toNatClampNeg v66)) wa64 cf ca ef ea xf xa) (ps' := [wdP cs h r g tf ta pf85 (va_up (va_up (va_up na86 23 (upd (na86 23) v89.toNatClampNeg z106)) 16 (upd ((va_up na86 23 (upd (na86 23) v89.toNatClampNeg z106)) 16) v89.toNatClampNeg (pf 11))) 17 (upd ((va_up (va_up na86 23 (upd (na86 23) v89.toNatClampNeg z106)) 16 (upd ((va_up na86 23 (upd (na86 23) v89.toNatClampNeg z106)) 16) v89.toNatClampNeg (pf 11))) 17) v89.toNatClampNeg z33)) (va_up ma87 18 (upd (ma87 18) v89.toNatClampNeg v66)) wa64 cf ca ef ea xf xa]) sp_18 rfl (fun H locs hw => ?_)
          refine lv_iload S.x S.b d_Mpg_expression_134 (lv_at hl 0 rfl) ?_
          refine lv_istore_n (lv' := [(2, .int v89), (6, .int v89), (5, .int v66), (4, .int (pf5 11)), (3, .int 1), (1, .int (pf 11)), (0, .ref h)]) S.x S.b d_Mpg_expression_136 rfl hl (by decide) rfl (fun ls hl => ?_)
          refine lv_iload_n S.x S.b d_Mpg_expression_137 rfl (lv_at hl 0 rfl) ?_
          exact th_iret (v := v89) S hr rfl hlk hAe hw (⟨pf85, (va_up (va_up (va_up na86 23 (upd (na86 23) v89.toNatClampNeg z106)) 16 (upd ((va_up na86 23 (upd (na86 23) v89.toNatClampNeg z106)) 16) v89.toNatClampNeg (pf 11))) 17 (upd ((va_up (va_up na86 23 (upd (na86 23) v89.toNatClampNeg z106)) 16 (upd ((va_up na86 23 (upd (na86 23) v89.toNatClampNeg z106)) 16) v89.toNatClampNeg (pf 11))) 17) v89.toNatClampNeg z33)), (va_up ma87 18 (upd (ma87 18) v89.toNatClampNeg v66)), wa64, rfl, (show (pf 11).toInt + 1 ≤ (pf85 11).toInt from by first | exact oz_cbc53fb126 e11 e92 e47 e67 | omega), (show (pf85 11).toInt < (tf 6).toInt from by first | exact oz_5d2fbac15b e68 e92 | omega), (show (pf 13).toInt + 1 ≤ (pf85 13).toInt from by first | exact oz_5cb147f4a7 e13 e91 e53 e69 | omega), (show (pf85 13).toInt - (pf 13).toInt ≤ (pf85 11).toInt - (pf 11).toInt from by first | exact oz_a87d71a883 e14 e91 e92 e47 e53 e70 | omega), (show bp ta (pf 11) + 1 ≤ bp ta (pf85 11) from by first | with_reducible rfl | with_reducible assumption | omega), (show (pf85 12).toInt = (pf 12).toInt from by first | exact oz_cb260e6882 e16 e93 e51 tz81 e72 | omega), (show (pf85 24).toInt = (pf 24).toInt from by first | exact oz_ff3084e3c1 e17 e94 e54 e73 | omega), (show (pf85 25).toInt = (pf 25).toInt from by first | exact oz_ff3084e3c1 e18 e95 e55 e74 | omega), (show (pf85 26).toInt = (pf 26).toInt from by first | exact oz_ff3084e3c1 e19 e96 e56 e75 | omega), (show FrB (pf 13).toInt na ma (va_up (va_up (va_up na86 23 (upd (na86 23) v89.toNatClampNeg z106)) 16 (upd ((va_up na86 23 (upd (na86 23) v89.toNatClampNeg z106)) 16) v89.toNatClampNeg (pf 11))) 17 (upd ((va_up (va_up na86 23 (upd (na86 23) v89.toNatClampNeg z106)) 16 (upd ((va_up na86 23 (upd (na86 23) v89.toNatClampNeg z106)) 16) v89.toNatClampNeg (pf 11))) 17) v89.toNatClampNeg z33)) (va_up ma87 18 (upd (ma87 18) v89.toNatClampNeg v66)) from (FrB.um (FrB.un (FrB.un (FrB.un hfb (by first | with_reducible rfl | with_reducible assumption | omega) (by first | with_reducible rfl | with_reducible assumption | omega)) (by first | with_reducible rfl | with_reducible assumption | omega) (by first | with_reducible rfl | with_reducible assumption | omega)) (by first | with_reducible rfl | with_reducible assumption | omega) (by first | with_reducible rfl | with_reducible assumption | omega)) (by first | with_reducible rfl | with_reducible assumption | omega) (by first | with_reducible rfl | with_reducible assumption | omega))), (show FrW (pf 26).toInt wa wa64 from hfw), (show ExR ta (tf 6).toInt (va_up (va_up (va_up na86 23 (upd (na86 23) v89.toNatClampNeg z106)) 16 (upd ((va_up na86 23 (upd (na86 23) v89.toNatClampNeg z106)) 16) v89.toNatClampNeg (pf 11))) 17 (upd ((va_up (va_up na86 23 (upd (na86 23) v89.toNatClampNeg z106)) 16 (upd ((va_up na86 23 (upd (na86 23) v89.toNatClampNeg z106)) 16) v89.toNatClampNeg (pf 11))) 17) v89.toNatClampNeg z33)) (va_up ma87 18 (upd (ma87 18) v89.toNatClampNeg v66)) v89 (pf 13).toInt (pf85 13).toInt (3 * (bp ta (pf85 11) - bp ta (pf 11))) (pf 12).toInt from (ExR.le (exr_assign (ExR.le ht_z33 (Int.le_refl _) (by first | with_reducible rfl | with_reducible assumption | omega) (Int.le_refl _) (Int.le_refl _)) ht_v66 (by first | with_reducible rfl | with_reducible assumption | omega) (by first | with_reducible rfl | with_reducible assumption | omega) (fun x hx => ⟨fun j => by rw [up_far hx, up_far hx, up_far hx], fun j => by rw [up_far hx]⟩) (by rw [va_up_n (by decide), va_up_n (by decide), va_up_n (by decide), hnk_v89.1]; rfl) (ndt_of (by rw [va_up_n (by decide), va_up_n (by decide), va_up_n (by decide), hnk_v89.2.1]) (by first | with_reducible rfl | with_reducible assumption | omega) (by first | with_reducible rfl | with_reducible assumption | omega) (by first | with_reducible rfl | with_reducible assumption | omega)) (by rw [va_up_s, pk_us]) (by rw [va_up_s, pk_us]) (by rw [dp_un (by decide), dp_un (by decide), dp_us]; constructor <;> omega) (by rw [dp_un (by decide), dp_un (by decide), dp_us]; omega) ⟨(by rw [va_up_n (by decide), va_up_n (by decide), va_up_n (by decide), hnk_v89.2.2.1]; decide), (by rw [va_up_n (by decide), hnk_v89.2.2.2.2]; decide)⟩ (by first | with_reducible rfl | with_reducible assumption | omega)) (by first | with_reducible rfl | with_reducible assumption | omega) (by first | with_reducible rfl | with_reducible assumption | omega) (by first | with_reducible rfl | with_reducible assumption | omega) (Int.le_refl _))), (show FsI (tf 6).toInt (pf85 13).toInt (va_up (va_up (va_up na86 23 (upd (na86 23) v89.toNatClampNeg z106)) 16 (upd ((va_up na86 23 (upd (na86 23) v89.toNatClampNeg z106)) 16) v89.toNatClampNeg (pf 11))) 17 (upd ((va_up (va_up na86 23 (upd (na86 23) v89.toNatClampNeg z106)) 16 (upd ((va_up na86 23 (upd (na86 23) v89.toNatClampNeg z106)) 16) v89.toNatClampNeg (pf 11))) 17) v89.toNatClampNeg z33)) from (FsI.le (FsI.un (FsI.us (FsI.un hfs (by decide)) (by first | with_reducible rfl | with_reducible assumption | omega) (by first | with_reducible rfl | with_reducible assumption | omega)) (by decide)) (by first | with_reducible rfl | with_reducible assumption | omega)))⟩) d_Mpg_expression_138
