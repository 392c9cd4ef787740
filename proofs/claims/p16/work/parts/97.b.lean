theorem m12_126 : Cond.methodLink "HomeSystemModel$Program" 494 ⟨"HomeSystemModel$Program", "inParentheses", "()I"⟩ ∈ AL := AL_12 (List.mem_of_getElem? (i := 126) rfl) rfl
theorem m12_129 : Cond.code ⟨"HomeSystemModel$Program", "inParentheses", "()I"⟩ prog_16_method_50_code 2 (Option.some FieldType.int) ∈ AL := AL_12 (List.mem_of_getElem? (i := 129) rfl) rfl
theorem ms_11_1 : Cond.selects "HomeSystemModel$Program" ⟨"HomeSystemModel$Program", "inParentheses", "()I"⟩ ⟨"HomeSystemModel$Program", "inParentheses", "()I"⟩ ∈ AL := AL_p (q := (⟨"HomeSystemModel$Program", "inParentheses", "()I"⟩, 69)) (by unfold lw_privs; exact List.mem_append_right _ (List.mem_append_right _ (List.mem_append_right _ (List.mem_append_right _ (List.mem_append_right _ (List.mem_append_right _ (List.mem_append_right _ (List.mem_append_right _ (List.mem_append_right _ (List.mem_append_right _ (List.mem_append_left _ (List.mem_of_getElem? (i := 1) rfl))))))))))))
theorem m12_128 : Cond.instanceMethod ⟨"HomeSystemModel$Program", "inParentheses", "()I"⟩ ∈ AL := AL_12 (List.mem_of_getElem? (i := 128) rfl) rfl
theorem m12_130 : Cond.methodLink "HomeSystemModel$Program" 497 ⟨"HomeSystemModel$Program", "takesKey", "(I)Z"⟩ ∈ AL := AL_12 (List.mem_of_getElem? (i := 130) rfl) rfl
theorem m12_133 : Cond.code ⟨"HomeSystemModel$Program", "takesKey", "(I)Z"⟩ prog_16_method_22_code 3 (Option.some FieldType.boolean) ∈ AL := AL_12 (List.mem_of_getElem? (i := 133) rfl) rfl
theorem ms_11_2 : Cond.selects "HomeSystemModel$Program" ⟨"HomeSystemModel$Program", "takesKey", "(I)Z"⟩ ⟨"HomeSystemModel$Program", "takesKey", "(I)Z"⟩ ∈ AL := AL_p (q := (⟨"HomeSystemModel$Program", "takesKey", "(I)Z"⟩, 69)) (by unfold lw_privs; exact List.mem_append_right _ (List.mem_append_right _ (List.mem_append_right _ (List.mem_append_right _ (List.mem_append_right _ (List.mem_append_right _ (List.mem_append_right _ (List.mem_append_right _ (List.mem_append_right _ (List.mem_append_right _ (List.mem_append_left _ (List.mem_of_getElem? (i := 2) rfl))))))))))))
theorem m12_132 : Cond.instanceMethod ⟨"HomeSystemModel$Program", "takesKey", "(I)Z"⟩ ∈ AL := AL_12 (List.mem_of_getElem? (i := 132) rfl) rfl
abbrev b_Mpg_conditioned : ByteArray := prog_16_method_53_code
def y_Mpg_conditioned : MethodName := ⟨"HomeSystemModel$Program", "conditioned", "(I)I"⟩
theorem d_Mpg_conditioned_0 : decode b_Mpg_conditioned 0 = .ok (.aload_n 0, 1) := by decide +kernel
theorem d_Mpg_conditioned_1 : decode b_Mpg_conditioned 1 = .ok (.iload_n 1, 1) := by decide +kernel
theorem d_Mpg_conditioned_2 : decode b_Mpg_conditioned 2 = .ok (.iconst 4, 1) := by decide +kernel
theorem d_Mpg_conditioned_3 : decode b_Mpg_conditioned 3 = .ok (.if_icmp .ne 8, 3) := by decide +kernel
theorem d_Mpg_conditioned_6 : decode b_Mpg_conditioned 6 = .ok (.bipush 24, 2) := by decide +kernel
theorem d_Mpg_conditioned_8 : decode b_Mpg_conditioned 8 = .ok (.goto 5, 3) := by decide +kernel
theorem d_Mpg_conditioned_11 : decode b_Mpg_conditioned 11 = .ok (.bipush 25, 2) := by decide +kernel
theorem d_Mpg_conditioned_13 : decode b_Mpg_conditioned 13 = .ok (.aload_n 0, 1) := by decide +kernel
theorem d_Mpg_conditioned_14 : decode b_Mpg_conditioned 14 = .ok (.getfield 360, 3) := by decide +kernel
theorem d_Mpg_conditioned_17 : decode b_Mpg_conditioned 17 = .ok (.invokevirtual 406, 3) := by decide +kernel
theorem d_Mpg_conditioned_20 : decode b_Mpg_conditioned 20 = .ok (.istore_n 2, 1) := by decide +kernel
theorem d_Mpg_conditioned_21 : decode b_Mpg_conditioned 21 = .ok (.aload_n 0, 1) := by decide +kernel
theorem d_Mpg_conditioned_22 : decode b_Mpg_conditioned 22 = .ok (.invokevirtual 383, 3) := by decide +kernel
theorem d_Mpg_conditioned_25 : decode b_Mpg_conditioned 25 = .ok (.aload_n 0, 1) := by decide +kernel
theorem d_Mpg_conditioned_26 : decode b_Mpg_conditioned 26 = .ok (.getfield 216, 3) := by decide +kernel
theorem d_Mpg_conditioned_29 : decode b_Mpg_conditioned 29 = .ok (.iload_n 2, 1) := by decide +kernel
theorem d_Mpg_conditioned_30 : decode b_Mpg_conditioned 30 = .ok (.aload_n 0, 1) := by decide +kernel
theorem d_Mpg_conditioned_31 : decode b_Mpg_conditioned 31 = .ok (.invokevirtual 494, 3) := by decide +kernel
theorem d_Mpg_conditioned_34 : decode b_Mpg_conditioned 34 = .ok (.iastore, 1) := by decide +kernel
theorem d_Mpg_conditioned_35 : decode b_Mpg_conditioned 35 = .ok (.aload_n 0, 1) := by decide +kernel
theorem d_Mpg_conditioned_36 : decode b_Mpg_conditioned 36 = .ok (.getfield 219, 3) := by decide +kernel
theorem d_Mpg_conditioned_39 : decode b_Mpg_conditioned 39 = .ok (.iload_n 2, 1) := by decide +kernel
theorem d_Mpg_conditioned_40 : decode b_Mpg_conditioned 40 = .ok (.aload_n 0, 1) := by decide +kernel
theorem d_Mpg_conditioned_41 : decode b_Mpg_conditioned 41 = .ok (.invokevirtual 463, 3) := by decide +kernel
theorem d_Mpg_conditioned_44 : decode b_Mpg_conditioned 44 = .ok (.iastore, 1) := by decide +kernel
theorem d_Mpg_conditioned_45 : decode b_Mpg_conditioned 45 = .ok (.iload_n 1, 1) := by decide +kernel
theorem d_Mpg_conditioned_46 : decode b_Mpg_conditioned 46 = .ok (.iconst 4, 1) := by decide +kernel
theorem d_Mpg_conditioned_47 : decode b_Mpg_conditioned 47 = .ok (.if_icmp .ne 21, 3) := by decide +kernel
theorem d_Mpg_conditioned_50 : decode b_Mpg_conditioned 50 = .ok (.aload_n 0, 1) := by decide +kernel
theorem d_Mpg_conditioned_51 : decode b_Mpg_conditioned 51 = .ok (.iconst 5, 1) := by decide +kernel
theorem d_Mpg_conditioned_52 : decode b_Mpg_conditioned 52 = .ok (.invokevirtual 497, 3) := by decide +kernel
theorem d_Mpg_conditioned_55 : decode b_Mpg_conditioned 55 = .ok (.ifCond .eq 13, 3) := by decide +kernel
theorem d_Mpg_conditioned_58 : decode b_Mpg_conditioned 58 = .ok (.aload_n 0, 1) := by decide +kernel
theorem d_Mpg_conditioned_59 : decode b_Mpg_conditioned 59 = .ok (.getfield 222, 3) := by decide +kernel
theorem d_Mpg_conditioned_62 : decode b_Mpg_conditioned 62 = .ok (.iload_n 2, 1) := by decide +kernel
theorem d_Mpg_conditioned_63 : decode b_Mpg_conditioned 63 = .ok (.aload_n 0, 1) := by decide +kernel
theorem d_Mpg_conditioned_64 : decode b_Mpg_conditioned 64 = .ok (.invokevirtual 463, 3) := by decide +kernel
theorem d_Mpg_conditioned_67 : decode b_Mpg_conditioned 67 = .ok (.iastore, 1) := by decide +kernel
theorem d_Mpg_conditioned_68 : decode b_Mpg_conditioned 68 = .ok (.aload_n 0, 1) := by decide +kernel
theorem d_Mpg_conditioned_69 : decode b_Mpg_conditioned 69 = .ok (.dup, 1) := by decide +kernel
theorem d_Mpg_conditioned_70 : decode b_Mpg_conditioned 70 = .ok (.getfield 380, 3) := by decide +kernel
theorem d_Mpg_conditioned_73 : decode b_Mpg_conditioned 73 = .ok (.iconst 1, 1) := by decide +kernel
theorem d_Mpg_conditioned_74 : decode b_Mpg_conditioned 74 = .ok (.isub, 1) := by decide +kernel
theorem d_Mpg_conditioned_75 : decode b_Mpg_conditioned 75 = .ok (.putfield 380, 3) := by decide +kernel
theorem d_Mpg_conditioned_78 : decode b_Mpg_conditioned 78 = .ok (.iload_n 2, 1) := by decide +kernel
theorem d_Mpg_conditioned_79 : decode b_Mpg_conditioned 79 = .ok (.ireturn, 1) := by decide +kernel
theorem q_Mpg_conditioned : px_y y_Mpg_conditioned 1 := by unfold px_y; decide +kernel
set_option maxHeartbeats 4000000 in
set_option maxRecDepth 100000 in
theorem c_mp_conditioned (l : Launch) (D : va_G) (cs : Nat → ClassId) (h : Nat) (r : Nat → Nat) (g : Nat → Nat → Option Nat) (tf : Nat → Int32) (ta : Nat → Nat → Int32) (cf : Nat → Int32) (ca : Nat → Nat → Int32) (ef : Nat → Int32) (ea : Nat → Nat → Int32) (xf : Nat → Int32) (xa : Nat → Nat → Int32) (pf : Nat → Int32) (na : Nat → Nat → Int32) (ma : Nat → Nat → Int32) (wa : Nat → Nat → Int32) (p0 : Int32) (lv : Nat) (g0 : 0 ≤ (pf 11).toInt) (g1 : (pf 11).toInt < (tf 6).toInt) (g2 : (tf 6).toInt ≤ 2049) (g3 : 0 ≤ (pf 12).toInt) (g4 : (pf 12).toInt ≤ 60) (g5 : 0 ≤ (pf 13).toInt) (g6 : (pf 13).toInt ≤ (pf 11).toInt + 10) (g7 : 0 ≤ (pf 26).toInt) (g8 : (pf 26).toInt ≤ (pf 12).toInt) (g9 : 61 ≤ (pf 12).toInt + (lv : Int)) (g10 : lv ≤ 61) (g11 : (pf 11).toInt + 1 < (tf 6).toInt) (hlf : l.flags = pinnedFlags ++ [noTraceFlag]) (htk : TkI tf ta) (hLT : LvT l D cs lv) : ThI l y_Mpg_conditioned b_Mpg_conditioned 3 (.int) D cs (8 * lv + 26) (220 * lv + 1200) [.ref h, .int p0] [wdP cs h r g tf ta pf na ma wa cf ca ef ea xf xa] (oX (fun A U H => (oN A U H) ∧ (oP A g U H)) [wdP cs h r g tf ta pf na ma wa cf ca ef ea xf xa]) "java/lang/IllegalArgumentException" (fun v ps => ∃ (pf' : Nat → Int32) (na' : Nat → Nat → Int32) (ma' : Nat → Nat → Int32) (wa' : Nat → Nat → Int32), (ps = [wdP cs h r g tf ta pf' na' ma' wa' cf ca ef ea xf xa]) ∧ ((pf 11).toInt + 1 ≤ (pf' 11).toInt) ∧ ((pf' 11).toInt < (tf 6).toInt) ∧ ((pf 13).toInt + 1 ≤ (pf' 13).toInt) ∧ ((pf' 13).toInt - (pf 13).toInt ≤ (pf' 11).toInt - (pf 11).toInt) ∧ (bp ta (pf 11) + 1 ≤ bp ta (pf' 11)) ∧ ((pf' 12).toInt = (pf 12).toInt) ∧ ((pf' 24).toInt = (pf 24).toInt) ∧ ((pf' 25).toInt = (pf 25).toInt) ∧ ((pf' 26).toInt = (pf 26).toInt) ∧ (FrB (pf 13).toInt na ma na' ma') ∧ (FrW (pf 26).toInt wa wa') ∧ (VlS ta (tf 6).toInt na' ma' v (pf 13).toInt (pf' 13).toInt (3 * (bp ta (pf' 11) - bp ta (pf 11))) (200 - (pf 12).toInt))) (fun ps => ∃ (pf' : Nat → Int32) (na' : Nat → Nat → Int32) (ma' : Nat → Nat → Int32) (wa' : Nat → Nat → Int32), ps = [wdP cs h r g tf ta pf' na' ma' wa' cf ca ef ea xf xa] ∧ 0 ≤ (pf' 11).toInt ∧ (pf' 11).toInt + 1 ≤ (tf 6).toInt) := by
  refine th_enter (by decide) (Nat.le_of_ble_eq_true rfl) ?_
  intro p e s m below meth c A ls hAe S hr hlk hnm hA hT hX hw hl hne hadm
  have hl : lv_has ls 3 [(0, .ref h), (1, .int p0)] := hl
  have lp0 := Int32.le_toInt p0
  have up0 := Int32.toInt_lt p0
  have cst1 : (1 : Int32).toInt = 1 := rfl
  have cst4 : (4 : Int32).toInt = 4 := rfl
  have cst5 : (5 : Int32).toInt = 5 := rfl
  have cst24 : (24 : Int32).toInt = 24 := rfl
  have cst25 : (25 : Int32).toInt = 25 := rfl
  have hX : (fun A U H => (oN A U H) ∧ (oP A g U H)) A s s.heap := by rw [hAe]; exact hX
  obtain ⟨hN, hP⟩ := hX
  have hZ := hP.1
  have hF0 := hP.2.1
  have hfb : FrB (pf 13).toInt na ma na ma := FrB.rf
  have hfw : FrW (pf 26).toInt wa wa := FrW.rf
  refine lv_aload_n S.x S.b d_Mpg_conditioned_0 rfl (lv_at hl 0 rfl) ?_
  refine lv_iload_n S.x S.b d_Mpg_conditioned_1 rfl (lv_at hl 1 rfl) ?_
  refine lv_iconst (v := 4) S.x S.b d_Mpg_conditioned_2 (by decide) ?_
  refine lv_icmp_ne (tgt := 11) S.x S.b d_Mpg_conditioned_3 (by decide) (fun c1 => ?_) (fun c1 => ?_)
  · have nc1 : ¬ p0.toInt = (4 : Int) := mt (i_eq (x := p0) (y := 4)).mpr c1
    refine lv_bipush (v := 25) S.x S.b d_Mpg_conditioned_11 (by decide) ?_
    refine lv_aload_n S.x S.b d_Mpg_conditioned_13 rfl (lv_at hl 0 rfl) ?_
    refine px_get S k_Mpg hT hw 0 0 11 (v := .int (pf 11)) rfl rfl rfl (by decide) m9_235 d_Mpg_conditioned_14 ?_
    refine px_calli (pr := []) (px_runV (As := [.int 25, .int (pf 11)]) (rest := []) S (c_mp_make l D cs h r g tf ta wa cf ca ef ea xf xa pf na ma 25 (pf 11)  (show 0 ≤ (pf 13).toInt from by omega) (show (pf 13).toInt < 2100 from by omega) _) hT (pr := []) (pcs := [wdP cs h r g tf ta pf na ma wa cf ca ef ea xf xa]) hw px_X.tt (px_recv hT hw 0 0 rfl rfl rfl) m11_209 m11_206 m11_208 ms_8_12 m1_21 q_Mpg_make ⟨show 0 + 1 ≤ (8 * lv + 26) from by omega, show 8 + (3 + 11) + 0 ≤ (220 * lv + 1200) from by omega⟩ hl.1 rfl (Nat.le_of_ble_eq_true rfl) d_Mpg_conditioned_17 ⟨Nat.le_of_ble_eq_true rfl, Nat.le_of_ble_eq_true rfl⟩) hw hA (fun v9 p8 H locs hp8 hw => ?_)
    obtain ⟨pf5, na6, ma7, rfl, e10, e11, e12, e13, e14, e15, e16, e17⟩ := hp8
    have e10 : v9.toInt = (pf 13).toInt := e10
    have e11 : (pf5 13).toInt = (pf 13).toInt + 1 := e11
    have e12 : (pf5 11).toInt = (pf 11).toInt := e12
    have e13 : (pf5 12).toInt = (pf 12).toInt := e13
    have e14 : (pf5 24).toInt = (pf 24).toInt := e14
    have e15 : (pf5 25).toInt = (pf 25).toInt := e15
    have e16 : (pf5 26).toInt = (pf 26).toInt := e16
    have e17 : MkN na ma na6 ma7 v9 (25 : Int32) (pf 11) := e17
    obtain ⟨qb181, qb182, qb183, qb184⟩ := tk_eq (ta := ta) (x := (pf5 11)) (y := (pf 11)) (by omega)
    have hmk_v9 := e17
    have hfm_v9 := MkN.frb (b := v9.toInt) hmk_v9 (by omega) (by omega)
    have hfb := hfb.tr hfm_v9 (by omega)
    have hf_14_v9 := hmk_v9.2.1 (by decide) (by decide)
    have hf_15_v9 := hmk_v9.2.2.1
    have hf_17_v9 := hmk_v9.2.2.2.2.1
    have hf_18_v9 := hmk_v9.2.2.2.2.2.1
    have hf_19_v9 := hmk_v9.2.2.2.2.2.2.1
    have hf_21_v9 := hmk_v9.2.2.2.2.2.2.2.2.1
    clear hmk_v9 hfm_v9
    have hw : pw D A s.heap H locs [wdP cs h r g tf ta pf5 na6 ma7 wa cf ca ef ea xf xa] := hw
    have lv9 := Int32.le_toInt v9
    have uv9 := Int32.toInt_lt v9
    refine lv_istore_n (lv' := [(2, .int v9), (0, .ref h), (1, .int p0)]) S.x S.b d_Mpg_conditioned_20 rfl hl (by decide) rfl (fun ls hl => ?_)
    refine lv_aload_n S.x S.b d_Mpg_conditioned_21 rfl (lv_at hl 1 rfl) ?_
    refine th_callv (ps0 := [wdP cs h r g tf ta pf na ma wa cf ca ef ea xf xa]) (pr := []) (pcs := [wdP cs h r g tf ta pf5 na6 ma7 wa cf ca ef ea xf xa]) (As := []) (rest := []) (c_mp_opens l D cs h r g tf ta na6 ma7 wa cf ca ef ea xf xa pf5   (show 0 ≤ (pf5 11).toInt from by omega) (show (pf5 11).toInt < (tf 6).toInt from by omega) (show (tf 6).toInt ≤ 2049 from by omega) (show (pf5 11).toInt + 1 < (tf 6).toInt from by omega) (show 0 ≤ (pf5 12).toInt from by omega) (show (pf5 12).toInt ≤ 60 from by omega) hlf htk) S hT hw (oX_call (P := (fun A U H => (oN A U H) ∧ (oP A g U H))) (pr := []) (oG_and oG_N oG_P) hw hA ⟨hN, hP⟩) (px_recv hT hw 0 0 rfl rfl rfl) m11_238 m11_235 m11_237 ms_9_1 m1_21 q_Mpg_opens ⟨show 7 + 1 ≤ (8 * lv + 26) from by omega, show 8 + (1 + 11) + 150 ≤ (220 * lv + 1200) from by omega⟩ hl.1 rfl (Nat.le_of_ble_eq_true rfl) d_Mpg_conditioned_22 ⟨Nat.le_of_ble_eq_true rfl, Nat.le_of_ble_eq_true rfl⟩ hne hlk hA hAe (fun o t h => Or.inr h) ?_ (fun p21 H locs hp21 hw => ?_)
    · exact fun p1 H1 locs1 hp hw => by obtain ⟨pq1, pq2, pq3, pq4, rfl, hq1, hq2⟩ := hp; exact ⟨_, ⟨pq1, pq2, pq3, pq4, rfl, hq1, hq2⟩, hw⟩
    obtain ⟨pf20, rfl, e23, e24, e25, e26, e27, e28, e29, e30, e31, e32⟩ := hp21
    have e23 : (pf20 11).toInt = (pf5 11).toInt + 1 := e23
    have e24 : (pf20 11).toInt < (tf 6).toInt := e24
    have e25 : bp ta (pf5 11) + sz ta (pf5 11) ≤ bp ta (pf20 11) := e25
    have e26 : 1 ≤ sz ta (pf5 11) := e26
    have e27 : (pf20 12).toInt = (pf5 12).toInt + 1 := e27
    have e28 : (pf5 12).toInt < 60 := e28
    have e29 : (pf20 13).toInt = (pf5 13).toInt := e29
    have e30 : (pf20 24).toInt = (pf5 24).toInt := e30
    have e31 : (pf20 25).toInt = (pf5 25).toInt := e31
    have e32 : (pf20 26).toInt = (pf5 26).toInt := e32
    have hw : pw D A s.heap H locs [wdP cs h r g tf ta pf20 na6 ma7 wa cf ca ef ea xf xa] := hw
    refine lv_aload_n S.x S.b d_Mpg_conditioned_25 rfl (lv_at hl 1 rfl) ?_
    refine px_get S k_Mpg hT hw 0 0 17 (v := .ref (r 17)) rfl rfl rfl (by decide) m10_1 d_Mpg_conditioned_26 ?_
    refine lv_iload_n S.x S.b d_Mpg_conditioned_29 rfl (lv_at hl 0 rfl) ?_
    refine lv_aload_n S.x S.b d_Mpg_conditioned_30 rfl (lv_at hl 1 rfl) ?_
    refine th_calli (ps0 := [wdP cs h r g tf ta pf na ma wa cf ca ef ea xf xa]) (pr := []) (pcs := [wdP cs h r g tf ta pf20 na6 ma7 wa cf ca ef ea xf xa]) (As := []) (rest := [.int v9, .ref (r 17)]) (c_mp_inParentheses l D cs h r g tf ta cf ca ef ea xf xa pf20 na6 ma7 wa  lv (show 0 ≤ (pf20 11).toInt from by omega) (show (pf20 11).toInt < (tf 6).toInt from by omega) (show (tf 6).toInt ≤ 2049 from by omega) (show 0 ≤ (pf20 12).toInt from by omega) (show (pf20 12).toInt ≤ 60 from by omega) (show 0 ≤ (pf20 13).toInt from by omega) (show (pf20 13).toInt ≤ (pf20 11).toInt + 10 from by omega) (show 0 ≤ (pf20 26).toInt from by omega) (show (pf20 26).toInt ≤ (pf20 12).toInt from by omega) (show 61 ≤ (pf20 12).toInt + (lv : Int) from by omega) (show lv ≤ 61 from by omega) hlf htk) S hT hw (oX_call (P := (fun A U H => (oN A U H) ∧ (oP A g U H))) (pr := []) (oG_and oG_N oG_P) hw hA ⟨hN, hP⟩) (px_recv hT hw 0 0 rfl rfl rfl) m12_129 m12_126 m12_128 ms_11_1 m1_21 q_Mpg_inParentheses ⟨show (8 * lv + 22) + 1 ≤ (8 * lv + 26) from by omega, show 8 + (2 + 11) + (220 * lv + 1000) ≤ (220 * lv + 1200) from by omega⟩ hl.1 rfl (Nat.le_of_ble_eq_true rfl) d_Mpg_conditioned_31 ⟨Nat.le_of_ble_eq_true rfl, Nat.le_of_ble_eq_true rfl⟩ hne hlk hA hAe (fun o t h => Or.inr h) ?_ (fun v42 p41 H locs hp41 hw => ?_)
    · exact fun p1 H1 locs1 hp hw => by obtain ⟨pq1, pq2, pq3, pq4, rfl, hq1, hq2⟩ := hp; exact ⟨_, ⟨pq1, pq2, pq3, pq4, rfl, hq1, hq2⟩, hw⟩
    obtain ⟨pf37, na38, ma39, wa40, rfl, e43, e44, e45, e46, e47, e48, e49, e50, e51, e52, e53, e54⟩ := hp41
    have e43 : (pf20 11).toInt + 1 ≤ (pf37 11).toInt := e43
    have e44 : (pf37 11).toInt < (tf 6).toInt := e44
    have e45 : (pf20 13).toInt + 1 ≤ (pf37 13).toInt := e45
    have e46 : (pf37 13).toInt - (pf20 13).toInt ≤ (pf37 11).toInt - (pf20 11).toInt := e46
    have e47 : bp ta (pf20 11) + 1 ≤ bp ta (pf37 11) := e47
    have e48 : (pf37 12).toInt = (pf20 12).toInt := e48
    have e49 : (pf37 24).toInt = (pf20 24).toInt := e49
    have e50 : (pf37 25).toInt = (pf20 25).toInt := e50
    have e51 : (pf37 26).toInt = (pf20 26).toInt := e51
    have e52 : FrB (pf20 13).toInt na6 ma7 na38 ma39 := e52
    have hf_14_v9 := (fb_n e52 (by omega) (by omega)).trans hf_14_v9
    have hf_15_v9 := (fb_n e52 (by omega) (by omega)).trans hf_15_v9
    have hf_17_v9 := (fb_n e52 (by omega) (by omega)).trans hf_17_v9
    have hf_18_v9 := (fb_m e52 (by omega) (by omega)).trans hf_18_v9
    have hf_19_v9 := (fb_m e52 (by omega) (by omega)).trans hf_19_v9
    have hf_21_v9 := (fb_n e52 (by omega) (by omega)).trans hf_21_v9
    have hfb := hfb.tr e52 (by omega)
    have e53 : FrW (pf20 26).toInt wa wa40 := e53
    have hfw := hfw.tr e53 (by omega)
    have e54 : ExR ta (tf 6).toInt na38 ma39 v42 (pf20 13).toInt (pf37 13).toInt (3 * (bp ta (pf37 11) - bp ta (pf20 11)) - 6) (pf20 12).toInt := e54
    have ht_v42 := e54
    have hn_ht_v42 := ht_v42.num
    have hw : pw D A s.heap H locs [wdP cs h r g tf ta pf37 na38 ma39 wa40 cf ca ef ea xf xa] := hw
    have lv42 := Int32.le_toInt v42
    have uv42 := Int32.toInt_lt v42
    refine px_iast S hT hw 0 13 (n := 2100) (f := (na38 17)) (x := v9) (y := v42) rfl gp_17 (vp_in_iff.mpr (by constructor <;> omega)) d_Mpg_conditioned_34 (w' := wdP cs h r g tf ta pf37 (va_up na38 17 (upd (na38 17) v9.toNatClampNeg v42)) ma39 wa40 cf ca ef ea xf xa) (ps' := [wdP cs h r g tf ta pf37 (va_up na38 17 (upd (na38 17) v9.toNatClampNeg v42)) ma39 wa40 cf ca ef ea xf xa]) sp_17 rfl (fun H locs hw => ?_)
    obtain ⟨na55, hu_na55⟩ : ∃ y : Nat → Nat → Int32, y = va_up na38 17 (upd (na38 17) v9.toNatClampNeg v42) := ⟨_, rfl⟩
    have hw : pw D A s.heap _ _ [wdP cs h r g tf ta pf37 na55 ma39 wa40 cf ca ef ea xf xa] := (by rw [hu_na55]; exact hw)
    obtain ⟨ht_v42, hdq_v42⟩ := ht_v42.ag (ag_n hu_na55 (by omega) (by omega)) (by omega)
    have hn_ht_v42 := ht_v42.num
    have hf_14_v9 := (fl_n hu_na55 (by decide)).trans hf_14_v9
    have hf_15_v9 := (fl_n hu_na55 (by decide)).trans hf_15_v9
    have hf_21_v9 := (fl_n hu_na55 (by decide)).trans hf_21_v9
    have hf_17_v9 : na55 17 v9.toNatClampNeg = v42 := (by rw [hu_na55, va_up_s, pk_us])
    have hfb : FrB (pf 13).toInt na ma na55 ma39 := (by rw [hu_na55]; exact FrB.un hfb (by omega) (by omega))
    refine lv_aload_n S.x S.b d_Mpg_conditioned_35 rfl (lv_at hl 1 rfl) ?_
    refine px_get S k_Mpg hT hw 0 0 18 (v := .ref (r 18)) rfl rfl rfl (by decide) m10_3 d_Mpg_conditioned_36 ?_
    refine lv_iload_n S.x S.b d_Mpg_conditioned_39 rfl (lv_at hl 0 rfl) ?_
    refine lv_aload_n S.x S.b d_Mpg_conditioned_40 rfl (lv_at hl 1 rfl) ?_
    refine th_calli (ps0 := [wdP cs h r g tf ta pf na ma wa cf ca ef ea xf xa]) (pr := []) (pcs := [wdP cs h r g tf ta pf37 na55 ma39 wa40 cf ca ef ea xf xa]) (As := []) (rest := [.int v9, .ref (r 18)]) ((hLT.go (by omega)) h r g tf ta cf ca ef ea xf xa pf37 na55 ma39 wa40   (show 0 ≤ (pf37 11).toInt from by omega) (show (pf37 11).toInt < (tf 6).toInt from by omega) (show (tf 6).toInt ≤ 2049 from by omega) (show 0 ≤ (pf37 12).toInt from by omega) (show (pf37 12).toInt ≤ 60 from by omega) (show 0 ≤ (pf37 13).toInt from by omega) (show (pf37 13).toInt ≤ (pf37 11).toInt + 10 from by omega) (show 0 ≤ (pf37 26).toInt from by omega) (show (pf37 26).toInt ≤ (pf37 12).toInt from by omega) (show 61 ≤ (pf37 12).toInt + ((lv - 1 : Nat) : Int) from by omega) (show lv - 1 ≤ 61 from by omega) hlf htk) S hT hw (oX_call (P := (fun A U H => (oN A U H) ∧ (oP A g U H))) (pr := []) (oG_and oG_N oG_P) hw hA ⟨hN, hP⟩) (px_recv hT hw 0 0 rfl rfl rfl) m12_101 m12_98 m12_100 ms_10_10 m1_21 q_Mpg_statement ⟨show (8 * (lv - 1) + 28) + 1 ≤ (8 * lv + 26) from by omega, show 8 + (2 + 11) + (220 * (lv - 1) + 1280) ≤ (220 * lv + 1200) from by omega⟩ hl.1 rfl (Nat.le_of_ble_eq_true rfl) d_Mpg_conditioned_41 ⟨Nat.le_of_ble_eq_true rfl, Nat.le_of_ble_eq_true rfl⟩ hne hlk hA hAe (fun o t h => Or.inr h) ?_ (fun v65 p64 H locs hp64 hw => ?_)
    · exact fun p1 H1 locs1 hp hw => by obtain ⟨pq1, pq2, pq3, pq4, rfl, hq1, hq2⟩ := hp; exact ⟨_, ⟨pq1, pq2, pq3, pq4, rfl, hq1, hq2⟩, hw⟩
    obtain ⟨pf60, na61, ma62, wa63, rfl, e66, e67, e68, e69, e70, e71, e72, e73, e74, e75, e76, e77⟩ := hp64
    have e66 : (pf37 11).toInt + 1 ≤ (pf60 11).toInt := e66
    have e67 : (pf60 11).toInt < (tf 6).toInt := e67
    have e68 : (pf37 13).toInt + 1 ≤ (pf60 13).toInt := e68
    have e69 : (pf60 13).toInt - (pf37 13).toInt ≤ (pf60 11).toInt - (pf37 11).toInt := e69
    have e70 : bp ta (pf37 11) + 1 ≤ bp ta (pf60 11) := e70
    have e71 : (pf60 12).toInt = (pf37 12).toInt := e71
    have e72 : (pf60 24).toInt = (pf37 24).toInt := e72
    have e73 : (pf60 25).toInt = (pf37 25).toInt := e73
    have e74 : (pf60 26).toInt = (pf37 26).toInt := e74
    have e75 : FrB (pf37 13).toInt na55 ma39 na61 ma62 := e75
    have ht_v42 := ht_v42.kp (FrB.le e75 (by omega)) (by omega)
    have hn_ht_v42 := ht_v42.num
    have hdq_v42 := dp_fb (x := v42) e75 (by omega) (by omega)
    have hf_14_v9 := (fb_n e75 (by omega) (by omega)).trans hf_14_v9
    have hf_15_v9 := (fb_n e75 (by omega) (by omega)).trans hf_15_v9
    have hf_17_v9 := (fb_n e75 (by omega) (by omega)).trans hf_17_v9
    have hf_18_v9 := (fb_m e75 (by omega) (by omega)).trans hf_18_v9
    have hf_19_v9 := (fb_m e75 (by omega) (by omega)).trans hf_19_v9
    have hf_21_v9 := (fb_n e75 (by omega) (by omega)).trans hf_21_v9
    have hfb := hfb.tr e75 (by omega)
    have e76 : FrW (pf37 26).toInt wa40 wa63 := e76
    have hfw := hfw.tr e76 (by omega)
    have e77 : VlS ta (tf 6).toInt na61 ma62 v65 (pf37 13).toInt (pf60 13).toInt (3 * (bp ta (pf60 11) - bp ta (pf37 11))) (200 - (pf37 12).toInt) := e77
    have hv_v65 := e77
    have hn_hv_v65 := hv_v65.num fs_ok
    have hw : pw D A s.heap H locs [wdP cs h r g tf ta pf60 na61 ma62 wa63 cf ca ef ea xf xa] := hw
    have lv65 := Int32.le_toInt v65
    have uv65 := Int32.toInt_lt v65
    refine px_iast S hT hw 0 14 (n := 2100) (f := (ma62 18)) (x := v9) (y := v65) rfl gp_18 (vp_in_iff.mpr (by constructor <;> omega)) d_Mpg_conditioned_44 (w' := wdP cs h r g tf ta pf60 na61 (va_up ma62 18 (upd (ma62 18) v9.toNatClampNeg v65)) wa63 cf ca ef ea xf xa) (ps' := [wdP cs h r g tf ta pf60 na61 (va_up ma62 18 (upd (ma62 18) v9.toNatClampNeg v65)) wa63 cf ca ef ea xf xa]) sp_18 rfl (fun H locs hw => ?_)
    obtain ⟨ma78, hu_ma78⟩ : ∃ y : Nat → Nat → Int32, y = va_up ma62 18 (upd (ma62 18) v9.toNatClampNeg v65) := ⟨_, rfl⟩
    have hw : pw D A s.heap _ _ [wdP cs h r g tf ta pf60 na61 ma78 wa63 cf ca ef ea xf xa] := (by rw [hu_ma78]; exact hw)
    obtain ⟨ht_v42, hdq_v42⟩ := ht_v42.ag (ag_m hu_ma78 (by omega) (by omega)) (by omega)
    have hn_ht_v42 := ht_v42.num
    have hv_v65 := hv_v65.ag fs_ok (ag_m hu_ma78 (by omega) (by omega))
    have hf_19_v9 := (fl_n hu_ma78 (by decide)).trans hf_19_v9
    have hf_18_v9 : ma78 18 v9.toNatClampNeg = v65 := (by rw [hu_ma78, va_up_s, pk_us])
    have hfb : FrB (pf 13).toInt na ma na61 ma78 := (by rw [hu_ma78]; exact FrB.um hfb (by omega) (by omega))
    refine lv_iload_n S.x S.b d_Mpg_conditioned_45 rfl (lv_at hl 2 rfl) ?_
    refine lv_iconst (v := 4) S.x S.b d_Mpg_conditioned_46 (by decide) ?_
    refine lv_icmp_ne (tgt := 68) S.x S.b d_Mpg_conditioned_47 (by decide) (fun c79 => ?_) (fun c79 => ?_)
    · have nc79 : ¬ p0.toInt = (4 : Int) := mt (i_eq (x := p0) (y := 4)).mpr c79
      refine lv_aload_n S.x S.b d_Mpg_conditioned_68 rfl (lv_at hl 1 rfl) ?_
      refine lv_dup S.x S.b d_Mpg_conditioned_69 rfl ?_
      refine px_get S k_Mpg hT hw 0 0 12 (v := .int (pf60 12)) rfl rfl rfl (by decide) m9_236 d_Mpg_conditioned_70 ?_
      refine lv_iconst (v := 1) S.x S.b d_Mpg_conditioned_73 (by decide) ?_
      refine lv_isub S.x S.b d_Mpg_conditioned_74 ?_
      have lr80 := Int32.le_toInt (pf60 12)
      have ur80 := Int32.toInt_lt (pf60 12)
      refine lv_topi (fun z81 ez81 => ?_)
      have tz81 : z81.toInt = ((pf60 12).toInt - (1 : Int) + 2147483648) % 4294967296 - 2147483648 := by rw [ez81]; exact i_sub (pf60 12) 1
      have lz81 := Int32.le_toInt z81
      have uz81 := Int32.toInt_lt z81
      try replace tz81 : z81.toInt = (pf60 12).toInt - (1 : Int) := by omega
      refine px_put S k_Mpg hT hw 0 0 12 rfl rfl (by decide) m9_236 rfl rfl rfl (Nat.le_of_ble_eq_true rfl) d_Mpg_conditioned_75 (w' := wdP cs h r g tf ta (upd pf60 12 z81) na61 ma78 wa63 cf ca ef ea xf xa) (ps' := [wdP cs h r g tf ta (upd pf60 12 z81) na61 ma78 wa63 cf ca ef ea xf xa]) rfl rfl (fun H locs hw => ?_)
      refine lv_iload_n S.x S.b d_Mpg_conditioned_78 rfl (lv_at hl 0 rfl) ?_
      exact th_iret (v := v9) S hr rfl hlk hAe hw (⟨(upd pf60 12 z81), na61, ma78, wa63, rfl, (show (pf 11).toInt + 1 ≤ (pf60 11).toInt from by omega), (show (pf60 11).toInt < (tf 6).toInt from by omega), (show (pf 13).toInt + 1 ≤ (pf60 13).toInt from by omega), (show (pf60 13).toInt - (pf 13).toInt ≤ (pf60 11).toInt - (pf 11).toInt from by omega), (show bp ta (pf 11) + 1 ≤ bp ta (pf60 11) from by omega), (show z81.toInt = (pf 12).toInt from by omega), (show (pf60 24).toInt = (pf 24).toInt from by omega), (show (pf60 25).toInt = (pf 25).toInt from by omega), (show (pf60 26).toInt = (pf 26).toInt from by omega), (show FrB (pf 13).toInt na ma na61 ma78 from hfb), (show FrW (pf 26).toInt wa wa63 from hfw), (show VlS ta (tf 6).toInt na61 ma78 v9 (pf 13).toInt (pf60 13).toInt (3 * (bp ta (pf60 11) - bp ta (pf 11))) (200 - (pf 12).toInt) from (VlV.le (st_if (hi := (pf60 13).toInt) (D := (199 - (pf 12).toInt)) (lo := v9.toInt + 1) ⟨by omega, hf_14_v9, hf_15_v9, ⟨by omega, by omega⟩, hf_21_v9⟩ (by decide) hf_17_v9 hf_18_v9 hf_19_v9 (by omega) (VlV.le (exr_vl ht_v42 (by omega)) (by omega) (by omega) (Int.le_refl _) (by omega)) (VlV.le hv_v65 (by omega) (by omega) (Int.le_refl _) (by omega)) (oz_n (W := 0) (by decide) (by omega)) (fun _ => by decide) (by omega)) (by omega) (by omega) (by omega) (by omega)))⟩) d_Mpg_conditioned_79
    · have nc79 : p0.toInt = (4 : Int) := (i_eq (x := p0) (y := 4)).mp c79
      exfalso
      omega
  · have nc1 : p0.toInt = (4 : Int) := (i_eq (x := p0) (y := 4)).mp c1
    refine lv_bipush (v := 24) S.x S.b d_Mpg_conditioned_6 (by decide) ?_
    refine lv_goto (tgt := 13) S.x S.b d_Mpg_conditioned_8 (by decide) ?_
    refine lv_aload_n S.x S.b d_Mpg_conditioned_13 rfl (lv_at hl 0 rfl) ?_
    refine px_get S k_Mpg hT hw 0 0 11 (v := .int (pf 11)) rfl rfl rfl (by decide) m9_235 d_Mpg_conditioned_14 ?_
    refine px_calli (pr := []) (px_runV (As := [.int 24, .int (pf 11)]) (rest := []) S (c_mp_make l D cs h r g tf ta wa cf ca ef ea xf xa pf na ma 24 (pf 11)  (show 0 ≤ (pf 13).toInt from by omega) (show (pf 13).toInt < 2100 from by omega) _) hT (pr := []) (pcs := [wdP cs h r g tf ta pf na ma wa cf ca ef ea xf xa]) hw px_X.tt (px_recv hT hw 0 0 rfl rfl rfl) m11_209 m11_206 m11_208 ms_8_12 m1_21 q_Mpg_make ⟨show 0 + 1 ≤ (8 * lv + 26) from by omega, show 8 + (3 + 11) + 0 ≤ (220 * lv + 1200) from by omega⟩ hl.1 rfl (Nat.le_of_ble_eq_true rfl) d_Mpg_conditioned_17 ⟨Nat.le_of_ble_eq_true rfl, Nat.le_of_ble_eq_true rfl⟩) hw hA (fun v89 p88 H locs hp88 hw => ?_)
    obtain ⟨pf85, na86, ma87, rfl, e90, e91, e92, e93, e94, e95, e96, e97⟩ := hp88
    have e90 : v89.toInt = (pf 13).toInt := e90
    have e91 : (pf85 13).toInt = (pf 13).toInt + 1 := e91
    have e92 : (pf85 11).toInt = (pf 11).toInt := e92
    have e93 : (pf85 12).toInt = (pf 12).toInt := e93
    have e94 : (pf85 24).toInt = (pf 24).toInt := e94
    have e95 : (pf85 25).toInt = (pf 25).toInt := e95
    have e96 : (pf85 26).toInt = (pf 26).toInt := e96
    have e97 : MkN na ma na86 ma87 v89 (24 : Int32) (pf 11) := e97
    obtain ⟨qb981, qb982, qb983, qb984⟩ := tk_eq (ta := ta) (x := (pf85 11)) (y := (pf 11)) (by omega)
    have hmk_v89 := e97
    have hfm_v89 := MkN.frb (b := v89.toInt) hmk_v89 (by omega) (by omega)
    have hfb := hfb.tr hfm_v89 (by omega)
    have hf_14_v89 := hmk_v89.2.1 (by decide) (by decide)
    have hf_15_v89 := hmk_v89.2.2.1
    have hf_17_v89 := hmk_v89.2.2.2.2.1
    have hf_18_v89 := hmk_v89.2.2.2.2.2.1
    have hf_19_v89 := hmk_v89.2.2.2.2.2.2.1
    have hf_21_v89 := hmk_v89.2.2.2.2.2.2.2.2.1
    clear hmk_v89 hfm_v89
    have hw : pw D A s.heap H locs [wdP cs h r g tf ta pf85 na86 ma87 wa cf ca ef ea xf xa] := hw
    have lv89 := Int32.le_toInt v89
    have uv89 := Int32.toInt_lt v89
    refine lv_istore_n (lv' := [(2, .int v89), (0, .ref h), (1, .int p0)]) S.x S.b d_Mpg_conditioned_20 rfl hl (by decide) rfl (fun ls hl => ?_)
    refine lv_aload_n S.x S.b d_Mpg_conditioned_21 rfl (lv_at hl 1 rfl) ?_
    refine th_callv (ps0 := [wdP cs h r g tf ta pf na ma wa cf ca ef ea xf xa]) (pr := []) (pcs := [wdP cs h r g tf ta pf85 na86 ma87 wa cf ca ef ea xf xa]) (As := []) (rest := []) (c_mp_opens l D cs h r g tf ta na86 ma87 wa cf ca ef ea xf xa pf85   (show 0 ≤ (pf85 11).toInt from by omega) (show (pf85 11).toInt < (tf 6).toInt from by omega) (show (tf 6).toInt ≤ 2049 from by omega) (show (pf85 11).toInt + 1 < (tf 6).toInt from by omega) (show 0 ≤ (pf85 12).toInt from by omega) (show (pf85 12).toInt ≤ 60 from by omega) hlf htk) S hT hw (oX_call (P := (fun A U H => (oN A U H) ∧ (oP A g U H))) (pr := []) (oG_and oG_N oG_P) hw hA ⟨hN, hP⟩) (px_recv hT hw 0 0 rfl rfl rfl) m11_238 m11_235 m11_237 ms_9_1 m1_21 q_Mpg_opens ⟨show 7 + 1 ≤ (8 * lv + 26) from by omega, show 8 + (1 + 11) + 150 ≤ (220 * lv + 1200) from by omega⟩ hl.1 rfl (Nat.le_of_ble_eq_true rfl) d_Mpg_conditioned_22 ⟨Nat.le_of_ble_eq_true rfl, Nat.le_of_ble_eq_true rfl⟩ hne hlk hA hAe (fun o t h => Or.inr h) ?_ (fun p101 H locs hp101 hw => ?_)
    · exact fun p1 H1 locs1 hp hw => by obtain ⟨pq1, pq2, pq3, pq4, rfl, hq1, hq2⟩ := hp; exact ⟨_, ⟨pq1, pq2, pq3, pq4, rfl, hq1, hq2⟩, hw⟩
    obtain ⟨pf100, rfl, e103, e104, e105, e106, e107, e108, e109, e110, e111, e112⟩ := hp101
    have e103 : (pf100 11).toInt = (pf85 11).toInt + 1 := e103
    have e104 : (pf100 11).toInt < (tf 6).toInt := e104
    have e105 : bp ta (pf85 11) + sz ta (pf85 11) ≤ bp ta (pf100 11) := e105
    have e106 : 1 ≤ sz ta (pf85 11) := e106
    have e107 : (pf100 12).toInt = (pf85 12).toInt + 1 := e107
    have e108 : (pf85 12).toInt < 60 := e108
    have e109 : (pf100 13).toInt = (pf85 13).toInt := e109
    have e110 : (pf100 24).toInt = (pf85 24).toInt := e110
    have e111 : (pf100 25).toInt = (pf85 25).toInt := e111
    have e112 : (pf100 26).toInt = (pf85 26).toInt := e112
    have hw : pw D A s.heap H locs [wdP cs h r g tf ta pf100 na86 ma87 wa cf ca ef ea xf xa] := hw
    refine lv_aload_n S.x S.b d_Mpg_conditioned_25 rfl (lv_at hl 1 rfl) ?_
    refine px_get S k_Mpg hT hw 0 0 17 (v := .ref (r 17)) rfl rfl rfl (by decide) m10_1 d_Mpg_conditioned_26 ?_
    refine lv_iload_n S.x S.b d_Mpg_conditioned_29 rfl (lv_at hl 0 rfl) ?_
    refine lv_aload_n S.x S.b d_Mpg_conditioned_30 rfl (lv_at hl 1 rfl) ?_
    refine th_calli (ps0 := [wdP cs h r g tf ta pf na ma wa cf ca ef ea xf xa]) (pr := []) (pcs := [wdP cs h r g tf ta pf100 na86 ma87 wa cf ca ef ea xf xa]) (As := []) (rest := [.int v89, .ref (r 17)]) (c_mp_inParentheses l D cs h r g tf ta cf ca ef ea xf xa pf100 na86 ma87 wa  lv (show 0 ≤ (pf100 11).toInt from by omega) (show (pf100 11).toInt < (tf 6).toInt from by omega) (show (tf 6).toInt ≤ 2049 from by omega) (show 0 ≤ (pf100 12).toInt from by omega) (show (pf100 12).toInt ≤ 60 from by omega) (show 0 ≤ (pf100 13).toInt from by omega) (show (pf100 13).toInt ≤ (pf100 11).toInt + 10 from by omega) (show 0 ≤ (pf100 26).toInt from by omega) (show (pf100 26).toInt ≤ (pf100 12).toInt from by omega) (show 61 ≤ (pf100 12).toInt + (lv : Int) from by omega) (show lv ≤ 61 from by omega) hlf htk) S hT hw (oX_call (P := (fun A U H => (oN A U H) ∧ (oP A g U H))) (pr := []) (oG_and oG_N oG_P) hw hA ⟨hN, hP⟩) (px_recv hT hw 0 0 rfl rfl rfl) m12_129 m12_126 m12_128 ms_11_1 m1_21 q_Mpg_inParentheses ⟨show (8 * lv + 22) + 1 ≤ (8 * lv + 26) from by omega, show 8 + (2 + 11) + (220 * lv + 1000) ≤ (220 * lv + 1200) from by omega⟩ hl.1 rfl (Nat.le_of_ble_eq_true rfl) d_Mpg_conditioned_31 ⟨Nat.le_of_ble_eq_true rfl, Nat.le_of_ble_eq_true rfl⟩ hne hlk hA hAe (fun o t h => Or.inr h) ?_ (fun v122 p121 H locs hp121 hw => ?_)
    · exact fun p1 H1 locs1 hp hw => by obtain ⟨pq1, pq2, pq3, pq4, rfl, hq1, hq2⟩ := hp; exact ⟨_, ⟨pq1, pq2, pq3, pq4, rfl, hq1, hq2⟩, hw⟩
    obtain ⟨pf117, na118, ma119, wa120, rfl, e123, e124, e125, e126, e127, e128, e129, e130, e131, e132, e133, e134⟩ := hp121
    have e123 : (pf100 11).toInt + 1 ≤ (pf117 11).toInt := e123
    have e124 : (pf117 11).toInt < (tf 6).toInt := e124
    have e125 : (pf100 13).toInt + 1 ≤ (pf117 13).toInt := e125
    have e126 : (pf117 13).toInt - (pf100 13).toInt ≤ (pf117 11).toInt - (pf100 11).toInt := e126
    have e127 : bp ta (pf100 11) + 1 ≤ bp ta (pf117 11) := e127
    have e128 : (pf117 12).toInt = (pf100 12).toInt := e128
    have e129 : (pf117 24).toInt = (pf100 24).toInt := e129
    have e130 : (pf117 25).toInt = (pf100 25).toInt := e130
    have e131 : (pf117 26).toInt = (pf100 26).toInt := e131
    have e132 : FrB (pf100 13).toInt na86 ma87 na118 ma119 := e132
    have hf_14_v89 := (fb_n e132 (by omega) (by omega)).trans hf_14_v89
    have hf_15_v89 := (fb_n e132 (by omega) (by omega)).trans hf_15_v89
    have hf_17_v89 := (fb_n e132 (by omega) (by omega)).trans hf_17_v89
    have hf_18_v89 := (fb_m e132 (by omega) (by omega)).trans hf_18_v89
    have hf_19_v89 := (fb_m e132 (by omega) (by omega)).trans hf_19_v89
    have hf_21_v89 := (fb_n e132 (by omega) (by omega)).trans hf_21_v89
    have hfb := hfb.tr e132 (by omega)
    have e133 : FrW (pf100 26).toInt wa wa120 := e133
    have hfw := hfw.tr e133 (by omega)
    have e134 : ExR ta (tf 6).toInt na118 ma119 v122 (pf100 13).toInt (pf117 13).toInt (3 * (bp ta (pf117 11) - bp ta (pf100 11)) - 6) (pf100 12).toInt := e134
    have ht_v122 := e134
    have hn_ht_v122 := ht_v122.num
    have hw : pw D A s.heap H locs [wdP cs h r g tf ta pf117 na118 ma119 wa120 cf ca ef ea xf xa] := hw
    have lv122 := Int32.le_toInt v122
    have uv122 := Int32.toInt_lt v122
    refine px_iast S hT hw 0 13 (n := 2100) (f := (na118 17)) (x := v89) (y := v122) rfl gp_17 (vp_in_iff.mpr (by constructor <;> omega)) d_Mpg_conditioned_34 (w' := wdP cs h r g tf ta pf117 (va_up na118 17 (upd (na118 17) v89.toNatClampNeg v122)) ma119 wa120 cf ca ef ea xf xa) (ps' := [wdP cs h r g tf ta pf117 (va_up na118 17 (upd (na118 17) v89.toNatClampNeg v122)) ma119 wa120 cf ca ef ea xf xa]) sp_17 rfl (fun H locs hw => ?_)
    obtain ⟨na135, hu_na135⟩ : ∃ y : Nat → Nat → Int32, y = va_up na118 17 (upd (na118 17) v89.toNatClampNeg v122) := ⟨_, rfl⟩
    have hw : pw D A s.heap _ _ [wdP cs h r g tf ta pf117 na135 ma119 wa120 cf ca ef ea xf xa] := (by rw [hu_na135]; exact hw)
    obtain ⟨ht_v122, hdq_v122⟩ := ht_v122.ag (ag_n hu_na135 (by omega) (by omega)) (by omega)
    have hn_ht_v122 := ht_v122.num
    have hf_14_v89 := (fl_n hu_na135 (by decide)).trans hf_14_v89
    have hf_15_v89 := (fl_n hu_na135 (by decide)).trans hf_15_v89
    have hf_21_v89 := (fl_n hu_na135 (by decide)).trans hf_21_v89
    have hf_17_v89 : na135 17 v89.toNatClampNeg = v122 := (by rw [hu_na135, va_up_s, pk_us])
    have hfb : FrB (pf 13).toInt na ma na135 ma119 := (by rw [hu_na135]; exact FrB.un hfb (by omega) (by omega))
    refine lv_aload_n S.x S.b d_Mpg_conditioned_35 rfl (lv_at hl 1 rfl) ?_
    refine px_get S k_Mpg hT hw 0 0 18 (v := .ref (r 18)) rfl rfl rfl (by decide) m10_3 d_Mpg_conditioned_36 ?_
    refine lv_iload_n S.x S.b d_Mpg_conditioned_39 rfl (lv_at hl 0 rfl) ?_
    refine lv_aload_n S.x S.b d_Mpg_conditioned_40 rfl (lv_at hl 1 rfl) ?_
    refine th_calli (ps0 := [wdP cs h r g tf ta pf na ma wa cf ca ef ea xf xa]) (pr := []) (pcs := [wdP cs h r g tf ta pf117 na135 ma119 wa120 cf ca ef ea xf xa]) (As := []) (rest := [.int v89, .ref (r 18)]) ((hLT.go (by omega)) h r g tf ta cf ca ef ea xf xa pf117 na135 ma119 wa120   (show 0 ≤ (pf117 11).toInt from by omega) (show (pf117 11).toInt < (tf 6).toInt from by omega) (show (tf 6).toInt ≤ 2049 from by omega) (show 0 ≤ (pf117 12).toInt from by omega) (show (pf117 12).toInt ≤ 60 from by omega) (show 0 ≤ (pf117 13).toInt from by omega) (show (pf117 13).toInt ≤ (pf117 11).toInt + 10 from by omega) (show 0 ≤ (pf117 26).toInt from by omega) (show (pf117 26).toInt ≤ (pf117 12).toInt from by omega) (show 61 ≤ (pf117 12).toInt + ((lv - 1 : Nat) : Int) from by omega) (show lv - 1 ≤ 61 from by omega) hlf htk) S hT hw (oX_call (P := (fun A U H => (oN A U H) ∧ (oP A g U H))) (pr := []) (oG_and oG_N oG_P) hw hA ⟨hN, hP⟩) (px_recv hT hw 0 0 rfl rfl rfl) m12_101 m12_98 m12_100 ms_10_10 m1_21 q_Mpg_statement ⟨show (8 * (lv - 1) + 28) + 1 ≤ (8 * lv + 26) from by omega, show 8 + (2 + 11) + (220 * (lv - 1) + 1280) ≤ (220 * lv + 1200) from by omega⟩ hl.1 rfl (Nat.le_of_ble_eq_true rfl) d_Mpg_conditioned_41 ⟨Nat.le_of_ble_eq_true rfl, Nat.le_of_ble_eq_true rfl⟩ hne hlk hA hAe (fun o t h => Or.inr h) ?_ (fun v145 p144 H locs hp144 hw => ?_)
    · exact fun p1 H1 locs1 hp hw => by obtain ⟨pq1, pq2, pq3, pq4, rfl, hq1, hq2⟩ := hp; exact ⟨_, ⟨pq1, pq2, pq3, pq4, rfl, hq1, hq2⟩, hw⟩
    obtain ⟨pf140, na141, ma142, wa143, rfl, e146, e147, e148, e149, e150, e151, e152, e153, e154, e155, e156, e157⟩ := hp144
    have e146 : (pf117 11).toInt + 1 ≤ (pf140 11).toInt := e146
    have e147 : (pf140 11).toInt < (tf 6).toInt := e147
    have e148 : (pf117 13).toInt + 1 ≤ (pf140 13).toInt := e148
    have e149 : (pf140 13).toInt - (pf117 13).toInt ≤ (pf140 11).toInt - (pf117 11).toInt := e149
    have e150 : bp ta (pf117 11) + 1 ≤ bp ta (pf140 11) := e150
    have e151 : (pf140 12).toInt = (pf117 12).toInt := e151
    have e152 : (pf140 24).toInt = (pf117 24).toInt := e152
    have e153 : (pf140 25).toInt = (pf117 25).toInt := e153
    have e154 : (pf140 26).toInt = (pf117 26).toInt := e154
    have e155 : FrB (pf117 13).toInt na135 ma119 na141 ma142 := e155
    have ht_v122 := ht_v122.kp (FrB.le e155 (by omega)) (by omega)
    have hn_ht_v122 := ht_v122.num
    have hdq_v122 := dp_fb (x := v122) e155 (by omega) (by omega)
    have hf_14_v89 := (fb_n e155 (by omega) (by omega)).trans hf_14_v89
    have hf_15_v89 := (fb_n e155 (by omega) (by omega)).trans hf_15_v89
    have hf_17_v89 := (fb_n e155 (by omega) (by omega)).trans hf_17_v89
    have hf_18_v89 := (fb_m e155 (by omega) (by omega)).trans hf_18_v89
    have hf_19_v89 := (fb_m e155 (by omega) (by omega)).trans hf_19_v89
    have hf_21_v89 := (fb_n e155 (by omega) (by omega)).trans hf_21_v89
    have hfb := hfb.tr e155 (by omega)
    have e156 : FrW (pf117 26).toInt wa120 wa143 := e156
    have hfw := hfw.tr e156 (by omega)
    have e157 : VlS ta (tf 6).toInt na141 ma142 v145 (pf117 13).toInt (pf140 13).toInt (3 * (bp ta (pf140 11) - bp ta (pf117 11))) (200 - (pf117 12).toInt) := e157
    have hv_v145 := e157
    have hn_hv_v145 := hv_v145.num fs_ok
    have hw : pw D A s.heap H locs [wdP cs h r g tf ta pf140 na141 ma142 wa143 cf ca ef ea xf xa] := hw
    have lv145 := Int32.le_toInt v145
    have uv145 := Int32.toInt_lt v145
    refine px_iast S hT hw 0 14 (n := 2100) (f := (ma142 18)) (x := v89) (y := v145) rfl gp_18 (vp_in_iff.mpr (by constructor <;> omega)) d_Mpg_conditioned_44 (w' := wdP cs h r g tf ta pf140 na141 (va_up ma142 18 (upd (ma142 18) v89.toNatClampNeg v145)) wa143 cf ca ef ea xf xa) (ps' := [wdP cs h r g tf ta pf140 na141 (va_up ma142 18 (upd (ma142 18) v89.toNatClampNeg v145)) wa143 cf ca ef ea xf xa]) sp_18 rfl (fun H locs hw => ?_)
    obtain ⟨ma158, hu_ma158⟩ : ∃ y : Nat → Nat → Int32, y = va_up ma142 18 (upd (ma142 18) v89.toNatClampNeg v145) := ⟨_, rfl⟩
    have hw : pw D A s.heap _ _ [wdP cs h r g tf ta pf140 na141 ma158 wa143 cf ca ef ea xf xa] := (by rw [hu_ma158]; exact hw)
    obtain ⟨ht_v122, hdq_v122⟩ := ht_v122.ag (ag_m hu_ma158 (by omega) (by omega)) (by omega)
    have hn_ht_v122 := ht_v122.num
    have hv_v145 := hv_v145.ag fs_ok (ag_m hu_ma158 (by omega) (by omega))
    have hf_19_v89 := (fl_n hu_ma158 (by decide)).trans hf_19_v89
    have hf_18_v89 : ma158 18 v89.toNatClampNeg = v145 := (by rw [hu_ma158, va_up_s, pk_us])
    have hfb : FrB (pf 13).toInt na ma na141 ma158 := (by rw [hu_ma158]; exact FrB.um hfb (by omega) (by omega))
    refine lv_iload_n S.x S.b d_Mpg_conditioned_45 rfl (lv_at hl 2 rfl) ?_
    refine lv_iconst (v := 4) S.x S.b d_Mpg_conditioned_46 (by decide) ?_
    refine lv_icmp_ne (tgt := 68) S.x S.b d_Mpg_conditioned_47 (by decide) (fun c159 => ?_) (fun c159 => ?_)
    · have nc159 : ¬ p0.toInt = (4 : Int) := mt (i_eq (x := p0) (y := 4)).mpr c159
      exfalso
      omega
    · have nc159 : p0.toInt = (4 : Int) := (i_eq (x := p0) (y := 4)).mp c159
      refine lv_aload_n S.x S.b d_Mpg_conditioned_50 rfl (lv_at hl 1 rfl) ?_
      refine lv_iconst (v := 5) S.x S.b d_Mpg_conditioned_51 (by decide) ?_
      refine px_calli (pr := []) (px_runV (As := [.int 5]) (rest := []) S (c_mp_takesKey l D cs h r g tf ta na141 ma158 wa143 cf ca ef ea xf xa pf140 5  (show 0 ≤ (pf140 11).toInt from by omega) (show (pf140 11).toInt < (tf 6).toInt from by omega) (show (tf 6).toInt ≤ 2049 from by omega) htk _) hT (pr := []) (pcs := [wdP cs h r g tf ta pf140 na141 ma158 wa143 cf ca ef ea xf xa]) hw px_X.tt (px_recv hT hw 0 0 rfl rfl rfl) m12_133 m12_130 m12_132 ms_11_2 m1_21 q_Mpg_takesKey ⟨show 1 + 1 ≤ (8 * lv + 26) from by omega, show 8 + (3 + 11) + 40 ≤ (220 * lv + 1200) from by omega⟩ hl.1 rfl (Nat.le_of_ble_eq_true rfl) d_Mpg_conditioned_52 ⟨Nat.le_of_ble_eq_true rfl, Nat.le_of_ble_eq_true rfl⟩) hw hA (fun v163 p162 H locs hp162 hw => ?_)
      obtain ⟨pf161, rfl, e164, e165, e166, e167, e168, e169, e170, e171, e172⟩ := hp162
      have e164 := z_rng e164
      have e165 : (pf161 11).toInt = (pf140 11).toInt + v163.toInt := e165
      have e166 : (pf161 11).toInt < (tf 6).toInt := e166
      have e167 : bp ta (pf140 11) + v163.toInt ≤ bp ta (pf161 11) := e167
      have e168 : (pf161 12).toInt = (pf140 12).toInt := e168
      have e169 : (pf161 13).toInt = (pf140 13).toInt := e169
      have e170 : (pf161 24).toInt = (pf140 24).toInt := e170
      have e171 : (pf161 25).toInt = (pf140 25).toInt := e171
      have e172 : (pf161 26).toInt = (pf140 26).toInt := e172
      have hw : pw D A s.heap H locs [wdP cs h r g tf ta pf161 na141 ma158 wa143 cf ca ef ea xf xa] := hw
      have lv163 := Int32.le_toInt v163
      have uv163 := Int32.toInt_lt v163
      refine lv_if_eq (tgt := 68) S.x S.b d_Mpg_conditioned_55 (by decide) (fun c173 => ?_) (fun c173 => ?_)
      · have nc173 : v163.toInt = (0 : Int) := (i_eq (x := v163) (y := 0)).mp c173
        refine lv_aload_n S.x S.b d_Mpg_conditioned_68 rfl (lv_at hl 1 rfl) ?_
        refine lv_dup S.x S.b d_Mpg_conditioned_69 rfl ?_
        refine px_get S k_Mpg hT hw 0 0 12 (v := .int (pf161 12)) rfl rfl rfl (by decide) m9_236 d_Mpg_conditioned_70 ?_
        refine lv_iconst (v := 1) S.x S.b d_Mpg_conditioned_73 (by decide) ?_
        refine lv_isub S.x S.b d_Mpg_conditioned_74 ?_
        have lr174 := Int32.le_toInt (pf161 12)
        have ur174 := Int32.toInt_lt (pf161 12)
        refine lv_topi (fun z175 ez175 => ?_)
        have tz175 : z175.toInt = ((pf161 12).toInt - (1 : Int) + 2147483648) % 4294967296 - 2147483648 := by rw [ez175]; exact i_sub (pf161 12) 1
        have lz175 := Int32.le_toInt z175
        have uz175 := Int32.toInt_lt z175
        try replace tz175 : z175.toInt = (pf161 12).toInt - (1 : Int) := by omega
        refine px_put S k_Mpg hT hw 0 0 12 rfl rfl (by decide) m9_236 rfl rfl rfl (Nat.le_of_ble_eq_true rfl) d_Mpg_conditioned_75 (w' := wdP cs h r g tf ta (upd pf161 12 z175) na141 ma158 wa143 cf ca ef ea xf xa) (ps' := [wdP cs h r g tf ta (upd pf161 12 z175) na141 ma158 wa143 cf ca ef ea xf xa]) rfl rfl (fun H locs hw => ?_)
        refine lv_iload_n S.x S.b d_Mpg_conditioned_78 rfl (lv_at hl 0 rfl) ?_
        exact th_iret (v := v89) S hr rfl hlk hAe hw (⟨(upd pf161 12 z175), na141, ma158, wa143, rfl, (show (pf 11).toInt + 1 ≤ (pf161 11).toInt from by omega), (show (pf161 11).toInt < (tf 6).toInt from by omega), (show (pf 13).toInt + 1 ≤ (pf161 13).toInt from by omega), (show (pf161 13).toInt - (pf 13).toInt ≤ (pf161 11).toInt - (pf 11).toInt from by omega), (show bp ta (pf 11) + 1 ≤ bp ta (pf161 11) from by omega), (show z175.toInt = (pf 12).toInt from by omega), (show (pf161 24).toInt = (pf 24).toInt from by omega), (show (pf161 25).toInt = (pf 25).toInt from by omega), (show (pf161 26).toInt = (pf 26).toInt from by omega), (show FrB (pf 13).toInt na ma na141 ma158 from hfb), (show FrW (pf 26).toInt wa wa143 from hfw), (show VlS ta (tf 6).toInt na141 ma158 v89 (pf 13).toInt (pf161 13).toInt (3 * (bp ta (pf161 11) - bp ta (pf 11))) (200 - (pf 12).toInt) from (VlV.le (st_if (hi := (pf161 13).toInt) (D := (199 - (pf 12).toInt)) (lo := v89.toInt + 1) ⟨by omega, hf_14_v89, hf_15_v89, ⟨by omega, by omega⟩, hf_21_v89⟩ (by decide) hf_17_v89 hf_18_v89 hf_19_v89 (by omega) (VlV.le (exr_vl ht_v122 (by omega)) (by omega) (by omega) (Int.le_refl _) (by omega)) (VlV.le hv_v145 (by omega) (by omega) (Int.le_refl _) (by omega)) (oz_n (W := 0) (by decide) (by omega)) (fun h => absurd rfl h) (by omega)) (by omega) (by omega) (by omega) (by omega)))⟩) d_Mpg_conditioned_79
      · have nc173 : ¬ v163.toInt = (0 : Int) := mt (i_eq (x := v163) (y := 0)).mpr c173
        refine lv_aload_n S.x S.b d_Mpg_conditioned_58 rfl (lv_at hl 1 rfl) ?_
        refine px_get S k_Mpg hT hw 0 0 19 (v := .ref (r 19)) rfl rfl rfl (by decide) m10_5 d_Mpg_conditioned_59 ?_
        refine lv_iload_n S.x S.b d_Mpg_conditioned_62 rfl (lv_at hl 0 rfl) ?_
        refine lv_aload_n S.x S.b d_Mpg_conditioned_63 rfl (lv_at hl 1 rfl) ?_
        refine th_calli (ps0 := [wdP cs h r g tf ta pf na ma wa cf ca ef ea xf xa]) (pr := []) (pcs := [wdP cs h r g tf ta pf161 na141 ma158 wa143 cf ca ef ea xf xa]) (As := []) (rest := [.int v89, .ref (r 19)]) ((hLT.go (by omega)) h r g tf ta cf ca ef ea xf xa pf161 na141 ma158 wa143   (show 0 ≤ (pf161 11).toInt from by omega) (show (pf161 11).toInt < (tf 6).toInt from by omega) (show (tf 6).toInt ≤ 2049 from by omega) (show 0 ≤ (pf161 12).toInt from by omega) (show (pf161 12).toInt ≤ 60 from by omega) (show 0 ≤ (pf161 13).toInt from by omega) (show (pf161 13).toInt ≤ (pf161 11).toInt + 10 from by omega) (show 0 ≤ (pf161 26).toInt from by omega) (show (pf161 26).toInt ≤ (pf161 12).toInt from by omega) (show 61 ≤ (pf161 12).toInt + ((lv - 1 : Nat) : Int) from by omega) (show lv - 1 ≤ 61 from by omega) hlf htk) S hT hw (oX_call (P := (fun A U H => (oN A U H) ∧ (oP A g U H))) (pr := []) (oG_and oG_N oG_P) hw hA ⟨hN, hP⟩) (px_recv hT hw 0 0 rfl rfl rfl) m12_101 m12_98 m12_100 ms_10_10 m1_21 q_Mpg_statement ⟨show (8 * (lv - 1) + 28) + 1 ≤ (8 * lv + 26) from by omega, show 8 + (2 + 11) + (220 * (lv - 1) + 1280) ≤ (220 * lv + 1200) from by omega⟩ hl.1 rfl (Nat.le_of_ble_eq_true rfl) d_Mpg_conditioned_64 ⟨Nat.le_of_ble_eq_true rfl, Nat.le_of_ble_eq_true rfl⟩ hne hlk hA hAe (fun o t h => Or.inr h) ?_ (fun v185 p184 H locs hp184 hw => ?_)
        · exact fun p1 H1 locs1 hp hw => by obtain ⟨pq1, pq2, pq3, pq4, rfl, hq1, hq2⟩ := hp; exact ⟨_, ⟨pq1, pq2, pq3, pq4, rfl, hq1, hq2⟩, hw⟩
        obtain ⟨pf180, na181, ma182, wa183, rfl, e186, e187, e188, e189, e190, e191, e192, e193, e194, e195, e196, e197⟩ := hp184
        have e186 : (pf161 11).toInt + 1 ≤ (pf180 11).toInt := e186
        have e187 : (pf180 11).toInt < (tf 6).toInt := e187
        have e188 : (pf161 13).toInt + 1 ≤ (pf180 13).toInt := e188
        have e189 : (pf180 13).toInt - (pf161 13).toInt ≤ (pf180 11).toInt - (pf161 11).toInt := e189
        have e190 : bp ta (pf161 11) + 1 ≤ bp ta (pf180 11) := e190
        have e191 : (pf180 12).toInt = (pf161 12).toInt := e191
        have e192 : (pf180 24).toInt = (pf161 24).toInt := e192
        have e193 : (pf180 25).toInt = (pf161 25).toInt := e193
        have e194 : (pf180 26).toInt = (pf161 26).toInt := e194
        have e195 : FrB (pf161 13).toInt na141 ma158 na181 ma182 := e195
        have ht_v122 := ht_v122.kp (FrB.le e195 (by omega)) (by omega)
        have hn_ht_v122 := ht_v122.num
        have hdq_v122 := dp_fb (x := v122) e195 (by omega) (by omega)
        have hf_14_v89 := (fb_n e195 (by omega) (by omega)).trans hf_14_v89
        have hf_15_v89 := (fb_n e195 (by omega) (by omega)).trans hf_15_v89
        have hf_17_v89 := (fb_n e195 (by omega) (by omega)).trans hf_17_v89
        have hf_18_v89 := (fb_m e195 (by omega) (by omega)).trans hf_18_v89
        have hf_19_v89 := (fb_m e195 (by omega) (by omega)).trans hf_19_v89
        have hf_21_v89 := (fb_n e195 (by omega) (by omega)).trans hf_21_v89
        have hv_v145 := hv_v145.ag fs_ok (FrB.ag e195 (by omega))
        have hfb := hfb.tr e195 (by omega)
        have e196 : FrW (pf161 26).toInt wa143 wa183 := e196
        have hfw := hfw.tr e196 (by omega)
        have e197 : VlS ta (tf 6).toInt na181 ma182 v185 (pf161 13).toInt (pf180 13).toInt (3 * (bp ta (pf180 11) - bp ta (pf161 11))) (200 - (pf161 12).toInt) := e197
        have hv_v185 := e197
        have hn_hv_v185 := hv_v185.num fs_ok
        have hw : pw D A s.heap H locs [wdP cs h r g tf ta pf180 na181 ma182 wa183 cf ca ef ea xf xa] := hw
        have lv185 := Int32.le_toInt v185
        have uv185 := Int32.toInt_lt v185
        refine px_iast S hT hw 0 15 (n := 2100) (f := (ma182 19)) (x := v89) (y := v185) rfl gp_19 (vp_in_iff.mpr (by constructor <;> omega)) d_Mpg_conditioned_67 (w' := wdP cs h r g tf ta pf180 na181 (va_up ma182 19 (upd (ma182 19) v89.toNatClampNeg v185)) wa183 cf ca ef ea xf xa) (ps' := [wdP cs h r g tf ta pf180 na181 (va_up ma182 19 (upd (ma182 19) v89.toNatClampNeg v185)) wa183 cf ca ef ea xf xa]) sp_19 rfl (fun H locs hw => ?_)
        obtain ⟨ma198, hu_ma198⟩ : ∃ y : Nat → Nat → Int32, y = va_up ma182 19 (upd (ma182 19) v89.toNatClampNeg v185) := ⟨_, rfl⟩
        have hw : pw D A s.heap _ _ [wdP cs h r g tf ta pf180 na181 ma198 wa183 cf ca ef ea xf xa] := (by rw [hu_ma198]; exact hw)
        obtain ⟨ht_v122, hdq_v122⟩ := ht_v122.ag (ag_m hu_ma198 (by omega) (by omega)) (by omega)
        have hn_ht_v122 := ht_v122.num
        have hv_v145 := hv_v145.ag fs_ok (ag_m hu_ma198 (by omega) (by omega))
        have hv_v185 := hv_v185.ag fs_ok (ag_m hu_ma198 (by omega) (by omega))
        have hf_18_v89 := (fl_n hu_ma198 (by decide)).trans hf_18_v89
        have hf_19_v89 : ma198 19 v89.toNatClampNeg = v185 := (by rw [hu_ma198, va_up_s, pk_us])
        have hfb : FrB (pf 13).toInt na ma na181 ma198 := (by rw [hu_ma198]; exact FrB.um hfb (by omega) (by omega))
        refine lv_aload_n S.x S.b d_Mpg_conditioned_68 rfl (lv_at hl 1 rfl) ?_
        refine lv_dup S.x S.b d_Mpg_conditioned_69 rfl ?_
        refine px_get S k_Mpg hT hw 0 0 12 (v := .int (pf180 12)) rfl rfl rfl (by decide) m9_236 d_Mpg_conditioned_70 ?_
        refine lv_iconst (v := 1) S.x S.b d_Mpg_conditioned_73 (by decide) ?_
        refine lv_isub S.x S.b d_Mpg_conditioned_74 ?_
        have lr199 := Int32.le_toInt (pf180 12)
        have ur199 := Int32.toInt_lt (pf180 12)
        refine lv_topi (fun z200 ez200 => ?_)
        have tz200 : z200.toInt = ((pf180 12).toInt - (1 : Int) + 2147483648) % 4294967296 - 2147483648 := by rw [ez200]; exact i_sub (pf180 12) 1
        have lz200 := Int32.le_toInt z200
        have uz200 := Int32.toInt_lt z200
        try replace tz200 : z200.toInt = (pf180 12).toInt - (1 : Int) := by omega
        refine px_put S k_Mpg hT hw 0 0 12 rfl rfl (by decide) m9_236 rfl rfl rfl (Nat.le_of_ble_eq_true rfl) d_Mpg_conditioned_75 (w' := wdP cs h r g tf ta (upd pf180 12 z200) na181 ma198 wa183 cf ca ef ea xf xa) (ps' := [wdP cs h r g tf ta (upd pf180 12 z200) na181 ma198 wa183 cf ca ef ea xf xa]) rfl rfl (fun H locs hw => ?_)
        refine lv_iload_n S.x S.b d_Mpg_conditioned_78 rfl (lv_at hl 0 rfl) ?_
        exact th_iret (v := v89) S hr rfl hlk hAe hw (⟨(upd pf180 12 z200), na181, ma198, wa183, rfl, (show (pf 11).toInt + 1 ≤ (pf180 11).toInt from by omega), (show (pf180 11).toInt < (tf 6).toInt from by omega), (show (pf 13).toInt + 1 ≤ (pf180 13).toInt from by omega), (show (pf180 13).toInt - (pf 13).toInt ≤ (pf180 11).toInt - (pf 11).toInt from by omega), (show bp ta (pf 11) + 1 ≤ bp ta (pf180 11) from by omega), (show z200.toInt = (pf 12).toInt from by omega), (show (pf180 24).toInt = (pf 24).toInt from by omega), (show (pf180 25).toInt = (pf 25).toInt from by omega), (show (pf180 26).toInt = (pf 26).toInt from by omega), (show FrB (pf 13).toInt na ma na181 ma198 from hfb), (show FrW (pf 26).toInt wa wa183 from hfw), (show VlS ta (tf 6).toInt na181 ma198 v89 (pf 13).toInt (pf180 13).toInt (3 * (bp ta (pf180 11) - bp ta (pf 11))) (200 - (pf 12).toInt) from (VlV.le (st_if (hi := (pf180 13).toInt) (D := (199 - (pf 12).toInt)) (lo := v89.toInt + 1) ⟨by omega, hf_14_v89, hf_15_v89, ⟨by omega, by omega⟩, hf_21_v89⟩ (by decide) hf_17_v89 hf_18_v89 hf_19_v89 (by omega) (VlV.le (exr_vl ht_v122 (by omega)) (by omega) (by omega) (Int.le_refl _) (by omega)) (VlV.le hv_v145 (by omega) (by omega) (Int.le_refl _) (by omega)) (oz_v fs_ok (VlV.le hv_v185 (by omega) (by omega) (Int.le_refl _) (by omega))) (fun h => absurd rfl h) (by omega)) (by omega) (by omega) (by omega) (by omega)))⟩) d_Mpg_conditioned_79
abbrev b_Mpg_doing : ByteArray := prog_16_method_54_code
def y_Mpg_doing : MethodName := ⟨"HomeSystemModel$Program", "doing", "()I"⟩
theorem d_Mpg_doing_0 : decode b_Mpg_doing 0 = .ok (.aload_n 0, 1) := by decide +kernel
theorem d_Mpg_doing_1 : decode b_Mpg_doing 1 = .ok (.bipush 26, 2) := by decide +kernel
theorem d_Mpg_doing_3 : decode b_Mpg_doing 3 = .ok (.aload_n 0, 1) := by decide +kernel
theorem d_Mpg_doing_4 : decode b_Mpg_doing 4 = .ok (.getfield 360, 3) := by decide +kernel
theorem d_Mpg_doing_7 : decode b_Mpg_doing 7 = .ok (.invokevirtual 406, 3) := by decide +kernel
theorem d_Mpg_doing_10 : decode b_Mpg_doing 10 = .ok (.istore_n 1, 1) := by decide +kernel
theorem d_Mpg_doing_11 : decode b_Mpg_doing 11 = .ok (.aload_n 0, 1) := by decide +kernel
theorem d_Mpg_doing_12 : decode b_Mpg_doing 12 = .ok (.invokevirtual 383, 3) := by decide +kernel
theorem d_Mpg_doing_15 : decode b_Mpg_doing 15 = .ok (.aload_n 0, 1) := by decide +kernel
theorem d_Mpg_doing_16 : decode b_Mpg_doing 16 = .ok (.getfield 219, 3) := by decide +kernel
theorem d_Mpg_doing_19 : decode b_Mpg_doing 19 = .ok (.iload_n 1, 1) := by decide +kernel
theorem d_Mpg_doing_20 : decode b_Mpg_doing 20 = .ok (.aload_n 0, 1) := by decide +kernel
theorem d_Mpg_doing_21 : decode b_Mpg_doing 21 = .ok (.invokevirtual 463, 3) := by decide +kernel
theorem d_Mpg_doing_24 : decode b_Mpg_doing 24 = .ok (.iastore, 1) := by decide +kernel
theorem d_Mpg_doing_25 : decode b_Mpg_doing 25 = .ok (.aload_n 0, 1) := by decide +kernel
theorem d_Mpg_doing_26 : decode b_Mpg_doing 26 = .ok (.aload_n 0, 1) := by decide +kernel
theorem d_Mpg_doing_27 : decode b_Mpg_doing 27 = .ok (.bipush 6, 2) := by decide +kernel
theorem d_Mpg_doing_29 : decode b_Mpg_doing 29 = .ok (.invokevirtual 497, 3) := by decide +kernel
theorem d_Mpg_doing_32 : decode b_Mpg_doing 32 = .ok (.invokevirtual 373, 3) := by decide +kernel
theorem d_Mpg_doing_35 : decode b_Mpg_doing 35 = .ok (.aload_n 0, 1) := by decide +kernel
theorem d_Mpg_doing_36 : decode b_Mpg_doing 36 = .ok (.getfield 216, 3) := by decide +kernel
theorem d_Mpg_doing_39 : decode b_Mpg_doing 39 = .ok (.iload_n 1, 1) := by decide +kernel
theorem d_Mpg_doing_40 : decode b_Mpg_doing 40 = .ok (.aload_n 0, 1) := by decide +kernel
theorem d_Mpg_doing_41 : decode b_Mpg_doing 41 = .ok (.invokevirtual 494, 3) := by decide +kernel
theorem d_Mpg_doing_44 : decode b_Mpg_doing 44 = .ok (.iastore, 1) := by decide +kernel
theorem d_Mpg_doing_45 : decode b_Mpg_doing 45 = .ok (.aload_n 0, 1) := by decide +kernel
theorem d_Mpg_doing_46 : decode b_Mpg_doing 46 = .ok (.ldc 101, 2) := by decide +kernel
theorem d_Mpg_doing_48 : decode b_Mpg_doing 48 = .ok (.invokevirtual 386, 3) := by decide +kernel
theorem d_Mpg_doing_51 : decode b_Mpg_doing 51 = .ok (.aload_n 0, 1) := by decide +kernel
theorem d_Mpg_doing_52 : decode b_Mpg_doing 52 = .ok (.dup, 1) := by decide +kernel
theorem d_Mpg_doing_53 : decode b_Mpg_doing 53 = .ok (.getfield 380, 3) := by decide +kernel
theorem d_Mpg_doing_56 : decode b_Mpg_doing 56 = .ok (.iconst 1, 1) := by decide +kernel
theorem d_Mpg_doing_57 : decode b_Mpg_doing 57 = .ok (.isub, 1) := by decide +kernel
theorem d_Mpg_doing_58 : decode b_Mpg_doing 58 = .ok (.putfield 380, 3) := by decide +kernel
theorem d_Mpg_doing_61 : decode b_Mpg_doing 61 = .ok (.iload_n 1, 1) := by decide +kernel
theorem d_Mpg_doing_62 : decode b_Mpg_doing 62 = .ok (.ireturn, 1) := by decide +kernel
theorem q_Mpg_doing : px_y y_Mpg_doing 0 := by unfold px_y; decide +kernel
set_option maxHeartbeats 4000000 in
set_option maxRecDepth 100000 in
theorem c_mp_doing (l : Launch) (D : va_G) (cs : Nat → ClassId) (h : Nat) (r : Nat → Nat) (g : Nat → Nat → Option Nat) (tf : Nat → Int32) (ta : Nat → Nat → Int32) (cf : Nat → Int32) (ca : Nat → Nat → Int32) (ef : Nat → Int32) (ea : Nat → Nat → Int32) (xf : Nat → Int32) (xa : Nat → Nat → Int32) (pf : Nat → Int32) (na : Nat → Nat → Int32) (ma : Nat → Nat → Int32) (wa : Nat → Nat → Int32) (lv : Nat) (g0 : 0 ≤ (pf 11).toInt) (g1 : (pf 11).toInt < (tf 6).toInt) (g2 : (tf 6).toInt ≤ 2049) (g3 : 0 ≤ (pf 12).toInt) (g4 : (pf 12).toInt ≤ 60) (g5 : 0 ≤ (pf 13).toInt) (g6 : (pf 13).toInt ≤ (pf 11).toInt + 10) (g7 : 0 ≤ (pf 26).toInt) (g8 : (pf 26).toInt ≤ (pf 12).toInt) (g9 : 61 ≤ (pf 12).toInt + (lv : Int)) (g10 : lv ≤ 61) (g11 : (pf 11).toInt + 1 < (tf 6).toInt) (hlf : l.flags = pinnedFlags ++ [noTraceFlag]) (htk : TkI tf ta) (hLT : LvT l D cs lv) : ThI l y_Mpg_doing b_Mpg_doing 2 (.int) D cs (8 * lv + 26) (220 * lv + 1200) [.ref h] [wdP cs h r g tf ta pf na ma wa cf ca ef ea xf xa] (oX (fun A U H => (oN A U H) ∧ (oP A g U H)) [wdP cs h r g tf ta pf na ma wa cf ca ef ea xf xa]) "java/lang/IllegalArgumentException" (fun v ps => ∃ (pf' : Nat → Int32) (na' : Nat → Nat → Int32) (ma' : Nat → Nat → Int32) (wa' : Nat → Nat → Int32), (ps = [wdP cs h r g tf ta pf' na' ma' wa' cf ca ef ea xf xa]) ∧ ((pf 11).toInt + 1 ≤ (pf' 11).toInt) ∧ ((pf' 11).toInt < (tf 6).toInt) ∧ ((pf 13).toInt + 1 ≤ (pf' 13).toInt) ∧ ((pf' 13).toInt - (pf 13).toInt ≤ (pf' 11).toInt - (pf 11).toInt) ∧ (bp ta (pf 11) + 1 ≤ bp ta (pf' 11)) ∧ ((pf' 12).toInt = (pf 12).toInt) ∧ ((pf' 24).toInt = (pf 24).toInt) ∧ ((pf' 25).toInt = (pf 25).toInt) ∧ ((pf' 26).toInt = (pf 26).toInt) ∧ (FrB (pf 13).toInt na ma na' ma') ∧ (FrW (pf 26).toInt wa wa') ∧ (VlS ta (tf 6).toInt na' ma' v (pf 13).toInt (pf' 13).toInt (3 * (bp ta (pf' 11) - bp ta (pf 11))) (200 - (pf 12).toInt))) (fun ps => ∃ (pf' : Nat → Int32) (na' : Nat → Nat → Int32) (ma' : Nat → Nat → Int32) (wa' : Nat → Nat → Int32), ps = [wdP cs h r g tf ta pf' na' ma' wa' cf ca ef ea xf xa] ∧ 0 ≤ (pf' 11).toInt ∧ (pf' 11).toInt + 1 ≤ (tf 6).toInt) := by
  refine th_enter (by decide) (Nat.le_of_ble_eq_true rfl) ?_
  intro p e s m below meth c A ls hAe S hr hlk hnm hA hT hX hw hl hne hadm
  have hl : lv_has ls 2 [(0, .ref h)] := hl
  have cst1 : (1 : Int32).toInt = 1 := rfl
  have cst6 : (6 : Int32).toInt = 6 := rfl
  have cst26 : (26 : Int32).toInt = 26 := rfl
  have hX : (fun A U H => (oN A U H) ∧ (oP A g U H)) A s s.heap := by rw [hAe]; exact hX
  obtain ⟨hN, hP⟩ := hX
  have hZ := hP.1
  have hF0 := hP.2.1
  have hfb : FrB (pf 13).toInt na ma na ma := FrB.rf
  have hfw : FrW (pf 26).toInt wa wa := FrW.rf
  refine lv_aload_n S.x S.b d_Mpg_doing_0 rfl (lv_at hl 0 rfl) ?_
  refine lv_bipush (v := 26) S.x S.b d_Mpg_doing_1 (by decide) ?_
  refine lv_aload_n S.x S.b d_Mpg_doing_3 rfl (lv_at hl 0 rfl) ?_
  refine px_get S k_Mpg hT hw 0 0 11 (v := .int (pf 11)) rfl rfl rfl (by decide) m9_235 d_Mpg_doing_4 ?_
  refine px_calli (pr := []) (px_runV (As := [.int 26, .int (pf 11)]) (rest := []) S (c_mp_make l D cs h r g tf ta wa cf ca ef ea xf xa pf na ma 26 (pf 11)  (show 0 ≤ (pf 13).toInt from by omega) (show (pf 13).toInt < 2100 from by omega) _) hT (pr := []) (pcs := [wdP cs h r g tf ta pf na ma wa cf ca ef ea xf xa]) hw px_X.tt (px_recv hT hw 0 0 rfl rfl rfl) m11_209 m11_206 m11_208 ms_8_12 m1_21 q_Mpg_make ⟨show 0 + 1 ≤ (8 * lv + 26) from by omega, show 8 + (3 + 11) + 0 ≤ (220 * lv + 1200) from by omega⟩ hl.1 rfl (Nat.le_of_ble_eq_true rfl) d_Mpg_doing_7 ⟨Nat.le_of_ble_eq_true rfl, Nat.le_of_ble_eq_true rfl⟩) hw hA (fun v8 p7 H locs hp7 hw => ?_)
  obtain ⟨pf4, na5, ma6, rfl, e9, e10, e11, e12, e13, e14, e15, e16⟩ := hp7
  have e9 : v8.toInt = (pf 13).toInt := e9
  have e10 : (pf4 13).toInt = (pf 13).toInt + 1 := e10
  have e11 : (pf4 11).toInt = (pf 11).toInt := e11
  have e12 : (pf4 12).toInt = (pf 12).toInt := e12
  have e13 : (pf4 24).toInt = (pf 24).toInt := e13
  have e14 : (pf4 25).toInt = (pf 25).toInt := e14
  have e15 : (pf4 26).toInt = (pf 26).toInt := e15
  have e16 : MkN na ma na5 ma6 v8 (26 : Int32) (pf 11) := e16
  obtain ⟨qb171, qb172, qb173, qb174⟩ := tk_eq (ta := ta) (x := (pf4 11)) (y := (pf 11)) (by omega)
  have hmk_v8 := e16
  have hfm_v8 := MkN.frb (b := v8.toInt) hmk_v8 (by omega) (by omega)
  have hfb := hfb.tr hfm_v8 (by omega)
  have hf_14_v8 := hmk_v8.2.1 (by decide) (by decide)
  have hf_15_v8 := hmk_v8.2.2.1
  have hf_17_v8 := hmk_v8.2.2.2.2.1
  have hf_18_v8 := hmk_v8.2.2.2.2.2.1
  have hf_19_v8 := hmk_v8.2.2.2.2.2.2.1
  have hf_21_v8 := hmk_v8.2.2.2.2.2.2.2.2.1
  clear hmk_v8 hfm_v8
  have hw : pw D A s.heap H locs [wdP cs h r g tf ta pf4 na5 ma6 wa cf ca ef ea xf xa] := hw
  have lv8 := Int32.le_toInt v8
  have uv8 := Int32.toInt_lt v8
  refine lv_istore_n (lv' := [(1, .int v8), (0, .ref h)]) S.x S.b d_Mpg_doing_10 rfl hl (by decide) rfl (fun ls hl => ?_)
  refine lv_aload_n S.x S.b d_Mpg_doing_11 rfl (lv_at hl 1 rfl) ?_
  refine th_callv (ps0 := [wdP cs h r g tf ta pf na ma wa cf ca ef ea xf xa]) (pr := []) (pcs := [wdP cs h r g tf ta pf4 na5 ma6 wa cf ca ef ea xf xa]) (As := []) (rest := []) (c_mp_opens l D cs h r g tf ta na5 ma6 wa cf ca ef ea xf xa pf4   (show 0 ≤ (pf4 11).toInt from by omega) (show (pf4 11).toInt < (tf 6).toInt from by omega) (show (tf 6).toInt ≤ 2049 from by omega) (show (pf4 11).toInt + 1 < (tf 6).toInt from by omega) (show 0 ≤ (pf4 12).toInt from by omega) (show (pf4 12).toInt ≤ 60 from by omega) hlf htk) S hT hw (oX_call (P := (fun A U H => (oN A U H) ∧ (oP A g U H))) (pr := []) (oG_and oG_N oG_P) hw hA ⟨hN, hP⟩) (px_recv hT hw 0 0 rfl rfl rfl) m11_238 m11_235 m11_237 ms_9_1 m1_21 q_Mpg_opens ⟨show 7 + 1 ≤ (8 * lv + 26) from by omega, show 8 + (1 + 11) + 150 ≤ (220 * lv + 1200) from by omega⟩ hl.1 rfl (Nat.le_of_ble_eq_true rfl) d_Mpg_doing_12 ⟨Nat.le_of_ble_eq_true rfl, Nat.le_of_ble_eq_true rfl⟩ hne hlk hA hAe (fun o t h => Or.inr h) ?_ (fun p20 H locs hp20 hw => ?_)
  · exact fun p1 H1 locs1 hp hw => by obtain ⟨pq1, pq2, pq3, pq4, rfl, hq1, hq2⟩ := hp; exact ⟨_, ⟨pq1, pq2, pq3, pq4, rfl, hq1, hq2⟩, hw⟩
  obtain ⟨pf19, rfl, e22, e23, e24, e25, e26, e27, e28, e29, e30, e31⟩ := hp20
  have e22 : (pf19 11).toInt = (pf4 11).toInt + 1 := e22
  have e23 : (pf19 11).toInt < (tf 6).toInt := e23
  have e24 : bp ta (pf4 11) + sz ta (pf4 11) ≤ bp ta (pf19 11) := e24
  have e25 : 1 ≤ sz ta (pf4 11) := e25
  have e26 : (pf19 12).toInt = (pf4 12).toInt + 1 := e26
  have e27 : (pf4 12).toInt < 60 := e27
  have e28 : (pf19 13).toInt = (pf4 13).toInt := e28
  have e29 : (pf19 24).toInt = (pf4 24).toInt := e29
  have e30 : (pf19 25).toInt = (pf4 25).toInt := e30
  have e31 : (pf19 26).toInt = (pf4 26).toInt := e31
  have hw : pw D A s.heap H locs [wdP cs h r g tf ta pf19 na5 ma6 wa cf ca ef ea xf xa] := hw
  refine lv_aload_n S.x S.b d_Mpg_doing_15 rfl (lv_at hl 1 rfl) ?_
  refine px_get S k_Mpg hT hw 0 0 18 (v := .ref (r 18)) rfl rfl rfl (by decide) m10_3 d_Mpg_doing_16 ?_
  refine lv_iload_n S.x S.b d_Mpg_doing_19 rfl (lv_at hl 0 rfl) ?_
  refine lv_aload_n S.x S.b d_Mpg_doing_20 rfl (lv_at hl 1 rfl) ?_
  refine th_calli (ps0 := [wdP cs h r g tf ta pf na ma wa cf ca ef ea xf xa]) (pr := []) (pcs := [wdP cs h r g tf ta pf19 na5 ma6 wa cf ca ef ea xf xa]) (As := []) (rest := [.int v8, .ref (r 18)]) ((hLT.go (by omega)) h r g tf ta cf ca ef ea xf xa pf19 na5 ma6 wa   (show 0 ≤ (pf19 11).toInt from by omega) (show (pf19 11).toInt < (tf 6).toInt from by omega) (show (tf 6).toInt ≤ 2049 from by omega) (show 0 ≤ (pf19 12).toInt from by omega) (show (pf19 12).toInt ≤ 60 from by omega) (show 0 ≤ (pf19 13).toInt from by omega) (show (pf19 13).toInt ≤ (pf19 11).toInt + 10 from by omega) (show 0 ≤ (pf19 26).toInt from by omega) (show (pf19 26).toInt ≤ (pf19 12).toInt from by omega) (show 61 ≤ (pf19 12).toInt + ((lv - 1 : Nat) : Int) from by omega) (show lv - 1 ≤ 61 from by omega) hlf htk) S hT hw (oX_call (P := (fun A U H => (oN A U H) ∧ (oP A g U H))) (pr := []) (oG_and oG_N oG_P) hw hA ⟨hN, hP⟩) (px_recv hT hw 0 0 rfl rfl rfl) m12_101 m12_98 m12_100 ms_10_10 m1_21 q_Mpg_statement ⟨show (8 * (lv - 1) + 28) + 1 ≤ (8 * lv + 26) from by omega, show 8 + (2 + 11) + (220 * (lv - 1) + 1280) ≤ (220 * lv + 1200) from by omega⟩ hl.1 rfl (Nat.le_of_ble_eq_true rfl) d_Mpg_doing_21 ⟨Nat.le_of_ble_eq_true rfl, Nat.le_of_ble_eq_true rfl⟩ hne hlk hA hAe (fun o t h => Or.inr h) ?_ (fun v41 p40 H locs hp40 hw => ?_)
  · exact fun p1 H1 locs1 hp hw => by obtain ⟨pq1, pq2, pq3, pq4, rfl, hq1, hq2⟩ := hp; exact ⟨_, ⟨pq1, pq2, pq3, pq4, rfl, hq1, hq2⟩, hw⟩
  obtain ⟨pf36, na37, ma38, wa39, rfl, e42, e43, e44, e45, e46, e47, e48, e49, e50, e51, e52, e53⟩ := hp40
  have e42 : (pf19 11).toInt + 1 ≤ (pf36 11).toInt := e42
  have e43 : (pf36 11).toInt < (tf 6).toInt := e43
  have e44 : (pf19 13).toInt + 1 ≤ (pf36 13).toInt := e44
  have e45 : (pf36 13).toInt - (pf19 13).toInt ≤ (pf36 11).toInt - (pf19 11).toInt := e45
  have e46 : bp ta (pf19 11) + 1 ≤ bp ta (pf36 11) := e46
  have e47 : (pf36 12).toInt = (pf19 12).toInt := e47
  have e48 : (pf36 24).toInt = (pf19 24).toInt := e48
  have e49 : (pf36 25).toInt = (pf19 25).toInt := e49
  have e50 : (pf36 26).toInt = (pf19 26).toInt := e50
  have e51 : FrB (pf19 13).toInt na5 ma6 na37 ma38 := e51
  have hf_14_v8 := (fb_n e51 (by omega) (by omega)).trans hf_14_v8
  have hf_15_v8 := (fb_n e51 (by omega) (by omega)).trans hf_15_v8
  have hf_17_v8 := (fb_n e51 (by omega) (by omega)).trans hf_17_v8
  have hf_18_v8 := (fb_m e51 (by omega) (by omega)).trans hf_18_v8
  have hf_19_v8 := (fb_m e51 (by omega) (by omega)).trans hf_19_v8
  have hf_21_v8 := (fb_n e51 (by omega) (by omega)).trans hf_21_v8
  have hfb := hfb.tr e51 (by omega)
  have e52 : FrW (pf19 26).toInt wa wa39 := e52
  have hfw := hfw.tr e52 (by omega)
  have e53 : VlS ta (tf 6).toInt na37 ma38 v41 (pf19 13).toInt (pf36 13).toInt (3 * (bp ta (pf36 11) - bp ta (pf19 11))) (200 - (pf19 12).toInt) := e53
  have hv_v41 := e53
  have hn_hv_v41 := hv_v41.num fs_ok
  have hw : pw D A s.heap H locs [wdP cs h r g tf ta pf36 na37 ma38 wa39 cf ca ef ea xf xa] := hw
  have lv41 := Int32.le_toInt v41
  have uv41 := Int32.toInt_lt v41
  refine px_iast S hT hw 0 14 (n := 2100) (f := (ma38 18)) (x := v8) (y := v41) rfl gp_18 (vp_in_iff.mpr (by constructor <;> omega)) d_Mpg_doing_24 (w' := wdP cs h r g tf ta pf36 na37 (va_up ma38 18 (upd (ma38 18) v8.toNatClampNeg v41)) wa39 cf ca ef ea xf xa) (ps' := [wdP cs h r g tf ta pf36 na37 (va_up ma38 18 (upd (ma38 18) v8.toNatClampNeg v41)) wa39 cf ca ef ea xf xa]) sp_18 rfl (fun H locs hw => ?_)
  obtain ⟨ma54, hu_ma54⟩ : ∃ y : Nat → Nat → Int32, y = va_up ma38 18 (upd (ma38 18) v8.toNatClampNeg v41) := ⟨_, rfl⟩
  have hw : pw D A s.heap _ _ [wdP cs h r g tf ta pf36 na37 ma54 wa39 cf ca ef ea xf xa] := (by rw [hu_ma54]; exact hw)
  have hv_v41 := hv_v41.ag fs_ok (ag_m hu_ma54 (by omega) (by omega))
  have hf_19_v8 := (fl_n hu_ma54 (by decide)).trans hf_19_v8
  have hf_18_v8 : ma54 18 v8.toNatClampNeg = v41 := (by rw [hu_ma54, va_up_s, pk_us])
  have hfb : FrB (pf 13).toInt na ma na37 ma54 := (by rw [hu_ma54]; exact FrB.um hfb (by omega) (by omega))
  refine lv_aload_n S.x S.b d_Mpg_doing_25 rfl (lv_at hl 1 rfl) ?_
  refine lv_aload_n S.x S.b d_Mpg_doing_26 rfl (lv_at hl 1 rfl) ?_
  refine lv_bipush (v := 6) S.x S.b d_Mpg_doing_27 (by decide) ?_
  refine px_calli (pr := []) (px_runV (As := [.int 6]) (rest := [.ref h]) S (c_mp_takesKey l D cs h r g tf ta na37 ma54 wa39 cf ca ef ea xf xa pf36 6  (show 0 ≤ (pf36 11).toInt from by omega) (show (pf36 11).toInt < (tf 6).toInt from by omega) (show (tf 6).toInt ≤ 2049 from by omega) htk _) hT (pr := []) (pcs := [wdP cs h r g tf ta pf36 na37 ma54 wa39 cf ca ef ea xf xa]) hw px_X.tt (px_recv hT hw 0 0 rfl rfl rfl) m12_133 m12_130 m12_132 ms_11_2 m1_21 q_Mpg_takesKey ⟨show 1 + 1 ≤ (8 * lv + 26) from by omega, show 8 + (3 + 11) + 40 ≤ (220 * lv + 1200) from by omega⟩ hl.1 rfl (Nat.le_of_ble_eq_true rfl) d_Mpg_doing_29 ⟨Nat.le_of_ble_eq_true rfl, Nat.le_of_ble_eq_true rfl⟩) hw hA (fun v58 p57 H locs hp57 hw => ?_)
  obtain ⟨pf56, rfl, e59, e60, e61, e62, e63, e64, e65, e66, e67⟩ := hp57
  have e59 := z_rng e59
  have e60 : (pf56 11).toInt = (pf36 11).toInt + v58.toInt := e60
  have e61 : (pf56 11).toInt < (tf 6).toInt := e61
  have e62 : bp ta (pf36 11) + v58.toInt ≤ bp ta (pf56 11) := e62
  have e63 : (pf56 12).toInt = (pf36 12).toInt := e63
  have e64 : (pf56 13).toInt = (pf36 13).toInt := e64
  have e65 : (pf56 24).toInt = (pf36 24).toInt := e65
  have e66 : (pf56 25).toInt = (pf36 25).toInt := e66
  have e67 : (pf56 26).toInt = (pf36 26).toInt := e67
  have hw : pw D A s.heap H locs [wdP cs h r g tf ta pf56 na37 ma54 wa39 cf ca ef ea xf xa] := hw
  have lv58 := Int32.le_toInt v58
  have uv58 := Int32.toInt_lt v58
  refine th_callv (ps0 := [wdP cs h r g tf ta pf na ma wa cf ca ef ea xf xa]) (pr := [wdP cs h r g tf ta pf56 na37 ma54 wa39 cf ca ef ea xf xa]) (pcs := []) (As := [.int v58]) (rest := []) (c_mp_need l hlf D cs h v58) S hT hw (oX_call (P := (fun A U H => (oN A U H))) (pr := [wdP cs h r g tf ta pf56 na37 ma54 wa39 cf ca ef ea xf xa]) oG_N hw hA hN) (px_recv hT hw 0 0 rfl rfl rfl) m11_233 m11_230 m11_232 ms_9_0 m1_21 q_Mpg_need ⟨show 6 + 1 ≤ (8 * lv + 26) from by omega, show 8 + (2 + 11) + 100 ≤ (220 * lv + 1200) from by omega⟩ hl.1 rfl (Nat.le_of_ble_eq_true rfl) d_Mpg_doing_32 ⟨Nat.le_of_ble_eq_true rfl, Nat.le_of_ble_eq_true rfl⟩ hne hlk hA hAe (fun o t h => Or.inr h) ?_ (fun p68 H locs hp68 hw => ?_)
  · exact fun p1 H1 locs1 hp hw => by subst hp; exact ⟨_, ⟨pf56, na37, ma54, wa39, rfl, by omega, by omega⟩, hw.sub [0] rfl rfl⟩
  obtain ⟨rfl, hndp68⟩ := hp68
  have hndp68 : ¬ v58.toInt = 0 := hndp68
  have hw : pw D A s.heap H locs [wdP cs h r g tf ta pf56 na37 ma54 wa39 cf ca ef ea xf xa] := hw
  refine lv_aload_n S.x S.b d_Mpg_doing_35 rfl (lv_at hl 1 rfl) ?_
  refine px_get S k_Mpg hT hw 0 0 17 (v := .ref (r 17)) rfl rfl rfl (by decide) m10_1 d_Mpg_doing_36 ?_
  refine lv_iload_n S.x S.b d_Mpg_doing_39 rfl (lv_at hl 0 rfl) ?_
  refine lv_aload_n S.x S.b d_Mpg_doing_40 rfl (lv_at hl 1 rfl) ?_
  refine th_calli (ps0 := [wdP cs h r g tf ta pf na ma wa cf ca ef ea xf xa]) (pr := []) (pcs := [wdP cs h r g tf ta pf56 na37 ma54 wa39 cf ca ef ea xf xa]) (As := []) (rest := [.int v8, .ref (r 17)]) (c_mp_inParentheses l D cs h r g tf ta cf ca ef ea xf xa pf56 na37 ma54 wa39  lv (show 0 ≤ (pf56 11).toInt from by omega) (show (pf56 11).toInt < (tf 6).toInt from by omega) (show (tf 6).toInt ≤ 2049 from by omega) (show 0 ≤ (pf56 12).toInt from by omega) (show (pf56 12).toInt ≤ 60 from by omega) (show 0 ≤ (pf56 13).toInt from by omega) (show (pf56 13).toInt ≤ (pf56 11).toInt + 10 from by omega) (show 0 ≤ (pf56 26).toInt from by omega) (show (pf56 26).toInt ≤ (pf56 12).toInt from by omega) (show 61 ≤ (pf56 12).toInt + (lv : Int) from by omega) (show lv ≤ 61 from by omega) hlf htk) S hT hw (oX_call (P := (fun A U H => (oN A U H) ∧ (oP A g U H))) (pr := []) (oG_and oG_N oG_P) hw hA ⟨hN, hP⟩) (px_recv hT hw 0 0 rfl rfl rfl) m12_129 m12_126 m12_128 ms_11_1 m1_21 q_Mpg_inParentheses ⟨show (8 * lv + 22) + 1 ≤ (8 * lv + 26) from by omega, show 8 + (2 + 11) + (220 * lv + 1000) ≤ (220 * lv + 1200) from by omega⟩ hl.1 rfl (Nat.le_of_ble_eq_true rfl) d_Mpg_doing_41 ⟨Nat.le_of_ble_eq_true rfl, Nat.le_of_ble_eq_true rfl⟩ hne hlk hA hAe (fun o t h => Or.inr h) ?_ (fun v79 p78 H locs hp78 hw => ?_)
  · exact fun p1 H1 locs1 hp hw => by obtain ⟨pq1, pq2, pq3, pq4, rfl, hq1, hq2⟩ := hp; exact ⟨_, ⟨pq1, pq2, pq3, pq4, rfl, hq1, hq2⟩, hw⟩
  obtain ⟨pf74, na75, ma76, wa77, rfl, e80, e81, e82, e83, e84, e85, e86, e87, e88, e89, e90, e91⟩ := hp78
  have e80 : (pf56 11).toInt + 1 ≤ (pf74 11).toInt := e80
  have e81 : (pf74 11).toInt < (tf 6).toInt := e81
  have e82 : (pf56 13).toInt + 1 ≤ (pf74 13).toInt := e82
  have e83 : (pf74 13).toInt - (pf56 13).toInt ≤ (pf74 11).toInt - (pf56 11).toInt := e83
  have e84 : bp ta (pf56 11) + 1 ≤ bp ta (pf74 11) := e84
  have e85 : (pf74 12).toInt = (pf56 12).toInt := e85
  have e86 : (pf74 24).toInt = (pf56 24).toInt := e86
  have e87 : (pf74 25).toInt = (pf56 25).toInt := e87
  have e88 : (pf74 26).toInt = (pf56 26).toInt := e88
  have e89 : FrB (pf56 13).toInt na37 ma54 na75 ma76 := e89
  have hf_14_v8 := (fb_n e89 (by omega) (by omega)).trans hf_14_v8
  have hf_15_v8 := (fb_n e89 (by omega) (by omega)).trans hf_15_v8
  have hf_17_v8 := (fb_n e89 (by omega) (by omega)).trans hf_17_v8
  have hf_18_v8 := (fb_m e89 (by omega) (by omega)).trans hf_18_v8
  have hf_19_v8 := (fb_m e89 (by omega) (by omega)).trans hf_19_v8
  have hf_21_v8 := (fb_n e89 (by omega) (by omega)).trans hf_21_v8
  have hv_v41 := hv_v41.ag fs_ok (FrB.ag e89 (by omega))
  have hfb := hfb.tr e89 (by omega)
  have e90 : FrW (pf56 26).toInt wa39 wa77 := e90
  have hfw := hfw.tr e90 (by omega)
  have e91 : ExR ta (tf 6).toInt na75 ma76 v79 (pf56 13).toInt (pf74 13).toInt (3 * (bp ta (pf74 11) - bp ta (pf56 11)) - 6) (pf56 12).toInt := e91
  have ht_v79 := e91
  have hn_ht_v79 := ht_v79.num
  have hw : pw D A s.heap H locs [wdP cs h r g tf ta pf74 na75 ma76 wa77 cf ca ef ea xf xa] := hw
  have lv79 := Int32.le_toInt v79
  have uv79 := Int32.toInt_lt v79
  refine px_iast S hT hw 0 13 (n := 2100) (f := (na75 17)) (x := v8) (y := v79) rfl gp_17 (vp_in_iff.mpr (by constructor <;> omega)) d_Mpg_doing_44 (w' := wdP cs h r g tf ta pf74 (va_up na75 17 (upd (na75 17) v8.toNatClampNeg v79)) ma76 wa77 cf ca ef ea xf xa) (ps' := [wdP cs h r g tf ta pf74 (va_up na75 17 (upd (na75 17) v8.toNatClampNeg v79)) ma76 wa77 cf ca ef ea xf xa]) sp_17 rfl (fun H locs hw => ?_)
  obtain ⟨na92, hu_na92⟩ : ∃ y : Nat → Nat → Int32, y = va_up na75 17 (upd (na75 17) v8.toNatClampNeg v79) := ⟨_, rfl⟩
  have hw : pw D A s.heap _ _ [wdP cs h r g tf ta pf74 na92 ma76 wa77 cf ca ef ea xf xa] := (by rw [hu_na92]; exact hw)
  obtain ⟨ht_v79, hdq_v79⟩ := ht_v79.ag (ag_n hu_na92 (by omega) (by omega)) (by omega)
  have hn_ht_v79 := ht_v79.num
  have hv_v41 := hv_v41.ag fs_ok (ag_n hu_na92 (by omega) (by omega))
  have hf_14_v8 := (fl_n hu_na92 (by decide)).trans hf_14_v8
  have hf_15_v8 := (fl_n hu_na92 (by decide)).trans hf_15_v8
  have hf_21_v8 := (fl_n hu_na92 (by decide)).trans hf_21_v8
  have hf_17_v8 : na92 17 v8.toNatClampNeg = v79 := (by rw [hu_na92, va_up_s, pk_us])
  have hfb : FrB (pf 13).toInt na ma na92 ma76 := (by rw [hu_na92]; exact FrB.un hfb (by omega) (by omega))
  refine lv_aload_n S.x S.b d_Mpg_doing_45 rfl (lv_at hl 1 rfl) ?_
  obtain ⟨sk93, hRsk93, st94, sb95, hSsk93⟩ := oP_lit hP (k := 101) (tx := ";") (n := 1) (List.mem_of_getElem? (i := 42) rfl)
  refine va_ldcS S.x S.b S.own hRsk93 d_Mpg_doing_46 ?_
  refine th_callv (ps0 := [wdP cs h r g tf ta pf na ma wa cf ca ef ea xf xa]) (pr := []) (pcs := [wdP cs h r g tf ta pf74 na92 ma76 wa77 cf ca ef ea xf xa]) (As := [.ref sk93]) (rest := []) (c_mp_take l D cs sk93 1 h r g tf ta na92 ma76 wa77 cf ca ef ea xf xa pf74   (show 0 ≤ (pf74 11).toInt from by omega) (show (pf74 11).toInt < (tf 6).toInt from by omega) (show (tf 6).toInt ≤ 2049 from by omega) (show 1 ≤ 100 from by omega) hlf htk) S hT hw (oX_call (P := (fun A U H => (oN A U H) ∧ (oP A g U H) ∧ (StS A sk93 1 U H))) (pr := []) (oG_and oG_N (oG_and oG_P oG_Q)) hw hA ⟨hN, hP, ⟨_, _, hSsk93⟩⟩) (px_recv hT hw 0 0 rfl rfl rfl) m12_57 m12_54 m12_56 ms_9_15 m1_21 q_Mpg_take ⟨show 7 + 1 ≤ (8 * lv + 26) from by omega, show 8 + (2 + 11) + 230 ≤ (220 * lv + 1200) from by omega⟩ hl.1 rfl (Nat.le_of_ble_eq_true rfl) d_Mpg_doing_48 ⟨Nat.le_of_ble_eq_true rfl, Nat.le_of_ble_eq_true rfl⟩ hne hlk hA hAe (fun o t h => Or.inr h) ?_ (fun p98 H locs hp98 hw => ?_)
  · exact fun p1 H1 locs1 hp hw => by obtain ⟨pq1, pq2, pq3, pq4, rfl, hq1, hq2⟩ := hp; exact ⟨_, ⟨pq1, pq2, pq3, pq4, rfl, hq1, hq2⟩, hw⟩
  obtain ⟨pf97, rfl, e100, e101, e102, e103, e104, e105, e106, e107⟩ := hp98
  have e100 : (pf97 11).toInt = (pf74 11).toInt + 1 := e100
  have e101 : (pf97 11).toInt < (tf 6).toInt := e101
  have e102 : bp ta (pf74 11) + 1 ≤ bp ta (pf97 11) := e102
  have e103 : (pf97 12).toInt = (pf74 12).toInt := e103
  have e104 : (pf97 13).toInt = (pf74 13).toInt := e104
  have e105 : (pf97 24).toInt = (pf74 24).toInt := e105
  have e106 : (pf97 25).toInt = (pf74 25).toInt := e106
  have e107 : (pf97 26).toInt = (pf74 26).toInt := e107
  have hw : pw D A s.heap H locs [wdP cs h r g tf ta pf97 na92 ma76 wa77 cf ca ef ea xf xa] := hw
  refine lv_aload_n S.x S.b d_Mpg_doing_51 rfl (lv_at hl 1 rfl) ?_
  refine lv_dup S.x S.b d_Mpg_doing_52 rfl ?_
  refine px_get S k_Mpg hT hw 0 0 12 (v := .int (pf97 12)) rfl rfl rfl (by decide) m9_236 d_Mpg_doing_53 ?_
  refine lv_iconst (v := 1) S.x S.b d_Mpg_doing_56 (by decide) ?_
  refine lv_isub S.x S.b d_Mpg_doing_57 ?_
  have lr108 := Int32.le_toInt (pf97 12)
  have ur108 := Int32.toInt_lt (pf97 12)
  refine lv_topi (fun z109 ez109 => ?_)
  have tz109 : z109.toInt = ((pf97 12).toInt - (1 : Int) + 2147483648) % 4294967296 - 2147483648 := by rw [ez109]; exact i_sub (pf97 12) 1
  have lz109 := Int32.le_toInt z109
  have uz109 := Int32.toInt_lt z109
  try replace tz109 : z109.toInt = (pf97 12).toInt - (1 : Int) := by omega
  refine px_put S k_Mpg hT hw 0 0 12 rfl rfl (by decide) m9_236 rfl rfl rfl (Nat.le_of_ble_eq_true rfl) d_Mpg_doing_58 (w' := wdP cs h r g tf ta (upd pf97 12 z109) na92 ma76 wa77 cf ca ef ea xf xa) (ps' := [wdP cs h r g tf ta (upd pf97 12 z109) na92 ma76 wa77 cf ca ef ea xf xa]) rfl rfl (fun H locs hw => ?_)
  refine lv_iload_n S.x S.b d_Mpg_doing_61 rfl (lv_at hl 0 rfl) ?_
  exact th_iret (v := v8) S hr rfl hlk hAe hw (⟨(upd pf97 12 z109), na92, ma76, wa77, rfl, (show (pf 11).toInt + 1 ≤ (pf97 11).toInt from by omega), (show (pf97 11).toInt < (tf 6).toInt from by omega), (show (pf 13).toInt + 1 ≤ (pf97 13).toInt from by omega), (show (pf97 13).toInt - (pf 13).toInt ≤ (pf97 11).toInt - (pf 11).toInt from by omega), (show bp ta (pf 11) + 1 ≤ bp ta (pf97 11) from by omega), (show z109.toInt = (pf 12).toInt from by omega), (show (pf97 24).toInt = (pf 24).toInt from by omega), (show (pf97 25).toInt = (pf 25).toInt from by omega), (show (pf97 26).toInt = (pf 26).toInt from by omega), (show FrB (pf 13).toInt na ma na92 ma76 from hfb), (show FrW (pf 26).toInt wa wa77 from hfw), (show VlS ta (tf 6).toInt na92 ma76 v8 (pf 13).toInt (pf97 13).toInt (3 * (bp ta (pf97 11) - bp ta (pf 11))) (200 - (pf 12).toInt) from (VlV.le (st_if (hi := (pf97 13).toInt) (D := (199 - (pf 12).toInt)) (lo := v8.toInt + 1) ⟨by omega, hf_14_v8, hf_15_v8, ⟨by omega, by omega⟩, hf_21_v8⟩ (by decide) hf_17_v8 hf_18_v8 hf_19_v8 (by omega) (VlV.le (exr_vl ht_v79 (by omega)) (by omega) (by omega) (Int.le_refl _) (by omega)) (VlV.le hv_v41 (by omega) (by omega) (Int.le_refl _) (by omega)) (oz_n (W := 0) (by decide) (by omega)) (fun _ => by decide) (by omega)) (by omega) (by omega) (by omega) (by omega)))⟩) d_Mpg_doing_62
