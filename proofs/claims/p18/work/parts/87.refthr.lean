theorem oz_41f81ca46e {a0 a1 a2 : Int} (h0 : a0 = a1 + a2) (h1 : a2 ≤ 1) (h2 : 0 ≤ a2) (h3 : ¬ a2 = 0) : a0 = a1 + 1 := by omega
theorem oz_a11d8258e2 {a0 a1 a2 : Int} (h0 : a0 + a2 ≤ a1) (h1 : 0 ≤ a2) (h2 : ¬ a2 = 0) : a0 + 1 ≤ a1 := by omega
theorem oz_aa088a5f4c {a0 a1 a2 : Int} (h0 : a2 + 1 < a1) (h1 : a0 = a2 + (1 : Int)) : a0 < a1 := by omega
theorem oz_2cd93d640a {a0 : Int} (h0 : ¬ (60 : Int) ≤ a0) : a0 < 60 := by omega
theorem oz_196269e214 {a0 a1 a2 : Int} (h0 : a0 + a2 ≤ a1) (h1 : 1 ≤ a2) : a0 + 1 ≤ a1 := by omega
theorem oz_bba493d71d {a0 : Int} (h0 : 0 ≤ a0) (h1 : a0 < 2100) : 0 ≤ a0 ∧ a0 < ((2100 : Nat) : Int) := by omega
theorem oz_fe4d3cd25c {a0 a1 a2 a3 : Int} (h0 : a2 = a1) (h1 : a3 = a0 + a2) (h2 : ¬ (60 : Int) ≤ a3) : a0 + a1 < 60 := by omega
theorem m12_3 : Cond.methodLink "HomeSystemModel$Program" 370 ⟨"HomeSystemModel$Program", "takes", "(Ljava/lang/String;)Z"⟩ ∈ AL := AL_12 (List.mem_of_getElem? (i := 3) rfl) rfl
theorem m12_6 : Cond.code ⟨"HomeSystemModel$Program", "takes", "(Ljava/lang/String;)Z"⟩ prog_16_method_20_code 3 (Option.some FieldType.boolean) ∈ AL := AL_12 (List.mem_of_getElem? (i := 6) rfl) rfl
theorem ms_9_3 : Cond.selects "HomeSystemModel$Program" ⟨"HomeSystemModel$Program", "takes", "(Ljava/lang/String;)Z"⟩ ⟨"HomeSystemModel$Program", "takes", "(Ljava/lang/String;)Z"⟩ ∈ AL := AL_p (q := (⟨"HomeSystemModel$Program", "takes", "(Ljava/lang/String;)Z"⟩, 69)) (by unfold lw_privs; exact List.mem_append_right _ (List.mem_append_right _ (List.mem_append_right _ (List.mem_append_right _ (List.mem_append_right _ (List.mem_append_right _ (List.mem_append_right _ (List.mem_append_right _ (List.mem_append_left _ (List.mem_of_getElem? (i := 3) rfl))))))))))
theorem m12_5 : Cond.instanceMethod ⟨"HomeSystemModel$Program", "takes", "(Ljava/lang/String;)Z"⟩ ∈ AL := AL_12 (List.mem_of_getElem? (i := 5) rfl) rfl
theorem m11_230 : Cond.methodLink "HomeSystemModel$Program" 373 ⟨"HomeSystemModel$Program", "need", "(Z)V"⟩ ∈ AL := AL_11 (List.mem_of_getElem? (i := 230) rfl) rfl
theorem m11_233 : Cond.code ⟨"HomeSystemModel$Program", "need", "(Z)V"⟩ prog_16_method_15_code 2 (Option.none : Option Jvm.ClassFile.FieldType) ∈ AL := AL_11 (List.mem_of_getElem? (i := 233) rfl) rfl
theorem ms_9_0 : Cond.selects "HomeSystemModel$Program" ⟨"HomeSystemModel$Program", "need", "(Z)V"⟩ ⟨"HomeSystemModel$Program", "need", "(Z)V"⟩ ∈ AL := AL_p (q := (⟨"HomeSystemModel$Program", "need", "(Z)V"⟩, 69)) (by unfold lw_privs; exact List.mem_append_right _ (List.mem_append_right _ (List.mem_append_right _ (List.mem_append_right _ (List.mem_append_right _ (List.mem_append_right _ (List.mem_append_right _ (List.mem_append_right _ (List.mem_append_left _ (List.mem_of_getElem? (i := 0) rfl))))))))))
theorem m11_232 : Cond.instanceMethod ⟨"HomeSystemModel$Program", "need", "(Z)V"⟩ ∈ AL := AL_11 (List.mem_of_getElem? (i := 232) rfl) rfl
theorem m9_236 : Cond.fieldLink "HomeSystemModel$Program" 380 "HomeSystemModel$Program" "open" "I" ∈ AL := AL_9 (List.mem_of_getElem? (i := 236) rfl) rfl
theorem m11_235 : Cond.methodLink "HomeSystemModel$Program" 383 ⟨"HomeSystemModel$Program", "opens", "()V"⟩ ∈ AL := AL_11 (List.mem_of_getElem? (i := 235) rfl) rfl
theorem m11_238 : Cond.code ⟨"HomeSystemModel$Program", "opens", "()V"⟩ prog_16_method_23_code 1 (Option.none : Option Jvm.ClassFile.FieldType) ∈ AL := AL_11 (List.mem_of_getElem? (i := 238) rfl) rfl
theorem ms_9_1 : Cond.selects "HomeSystemModel$Program" ⟨"HomeSystemModel$Program", "opens", "()V"⟩ ⟨"HomeSystemModel$Program", "opens", "()V"⟩ ∈ AL := AL_p (q := (⟨"HomeSystemModel$Program", "opens", "()V"⟩, 69)) (by unfold lw_privs; exact List.mem_append_right _ (List.mem_append_right _ (List.mem_append_right _ (List.mem_append_right _ (List.mem_append_right _ (List.mem_append_right _ (List.mem_append_right _ (List.mem_append_right _ (List.mem_append_left _ (List.mem_of_getElem? (i := 1) rfl))))))))))
theorem m11_237 : Cond.instanceMethod ⟨"HomeSystemModel$Program", "opens", "()V"⟩ ∈ AL := AL_11 (List.mem_of_getElem? (i := 237) rfl) rfl
theorem m12_54 : Cond.methodLink "HomeSystemModel$Program" 386 ⟨"HomeSystemModel$Program", "take", "(Ljava/lang/String;)V"⟩ ∈ AL := AL_12 (List.mem_of_getElem? (i := 54) rfl) rfl
theorem m12_57 : Cond.code ⟨"HomeSystemModel$Program", "take", "(Ljava/lang/String;)V"⟩ prog_16_method_21_code 2 (Option.none : Option Jvm.ClassFile.FieldType) ∈ AL := AL_12 (List.mem_of_getElem? (i := 57) rfl) rfl
theorem ms_9_15 : Cond.selects "HomeSystemModel$Program" ⟨"HomeSystemModel$Program", "take", "(Ljava/lang/String;)V"⟩ ⟨"HomeSystemModel$Program", "take", "(Ljava/lang/String;)V"⟩ ∈ AL := AL_p (q := (⟨"HomeSystemModel$Program", "take", "(Ljava/lang/String;)V"⟩, 69)) (by unfold lw_privs; exact List.mem_append_right _ (List.mem_append_right _ (List.mem_append_right _ (List.mem_append_right _ (List.mem_append_right _ (List.mem_append_right _ (List.mem_append_right _ (List.mem_append_right _ (List.mem_append_left _ (List.mem_of_getElem? (i := 15) rfl))))))))))
theorem m12_56 : Cond.instanceMethod ⟨"HomeSystemModel$Program", "take", "(Ljava/lang/String;)V"⟩ ∈ AL := AL_12 (List.mem_of_getElem? (i := 56) rfl) rfl
def SoIs (ta : Nat → Nat → Int32) (x : Int32) (s : Int) : Prop := so ta x = s
/-- a node's depth -/
def dp (na : Nat → Nat → Int32) (x : Int32) : Int := (na 23 x.toNatClampNeg).toInt
abbrev b_Mpg_take : ByteArray := prog_16_method_21_code
def y_Mpg_take : MethodName := ⟨"HomeSystemModel$Program", "take", "(Ljava/lang/String;)V"⟩
theorem d_Mpg_take_0 : decode b_Mpg_take 0 = .ok (.aload_n 0, 1) := by decide +kernel
theorem d_Mpg_take_1 : decode b_Mpg_take 1 = .ok (.aload_n 0, 1) := by decide +kernel
theorem d_Mpg_take_2 : decode b_Mpg_take 2 = .ok (.aload_n 1, 1) := by decide +kernel
theorem d_Mpg_take_3 : decode b_Mpg_take 3 = .ok (.invokevirtual 370, 3) := by decide +kernel
theorem d_Mpg_take_6 : decode b_Mpg_take 6 = .ok (.invokevirtual 373, 3) := by decide +kernel
theorem d_Mpg_take_9 : decode b_Mpg_take 9 = .ok (.return_, 1) := by decide +kernel
theorem q_Mpg_take : px_y y_Mpg_take 1 := by unfold px_y; decide +kernel
set_option maxHeartbeats 4000000 in
set_option maxRecDepth 100000 in
theorem c_mp_take (l : Launch) (D : va_G) (cs : Nat → ClassId) (sk : Nat) (sn : Nat) (sb : Nat → Int32) (h : Nat) (r : Nat → Nat) (g : Nat → Nat → Option Nat) (tf : Nat → Int32) (ta : Nat → Nat → Int32) (na : Nat → Nat → Int32) (ma : Nat → Nat → Int32) (wa : Nat → Nat → Int32) (cf : Nat → Int32) (ca : Nat → Nat → Int32) (ef : Nat → Int32) (ea : Nat → Nat → Int32) (xf : Nat → Int32) (xa : Nat → Nat → Int32) (pf : Nat → Int32)  (g0 : 0 ≤ (pf 11).toInt) (g1 : (pf 11).toInt < (tf 6).toInt) (g2 : (tf 6).toInt ≤ 2049) (g3 : sn ≤ 100) (hlf : l.flags = pinnedFlags ++ [noTraceFlag]) (htk : TkI tf ta) : ThV l y_Mpg_take b_Mpg_take 2 D cs 7 230 [.ref h, .ref sk] [wdP cs h r g tf ta pf na ma wa cf ca ef ea xf xa] (oX (fun A U H => (oN A U H) ∧ (oP A g U H) ∧ (StLt A sk sn sb U H)) [wdP cs h r g tf ta pf na ma wa cf ca ef ea xf xa]) "java/lang/IllegalArgumentException" (fun ps => ∃ (pf' : Nat → Int32), (ps = [wdP cs h r g tf ta pf' na ma wa cf ca ef ea xf xa]) ∧ ((pf' 11).toInt = (pf 11).toInt + 1) ∧ ((pf' 11).toInt < (tf 6).toInt) ∧ (bp ta (pf 11) + 1 ≤ bp ta (pf' 11)) ∧ ((pf' 12).toInt = (pf 12).toInt) ∧ ((pf' 13).toInt = (pf 13).toInt) ∧ ((pf' 24).toInt = (pf 24).toInt) ∧ ((pf' 25).toInt = (pf 25).toInt) ∧ ((pf' 26).toInt = (pf 26).toInt) ∧ (R_mp_take sn sb ta pf pf' 0)) (fun ps => ∃ (pf' : Nat → Int32) (na' : Nat → Nat → Int32) (ma' : Nat → Nat → Int32) (wa' : Nat → Nat → Int32), ps = [wdP cs h r g tf ta pf' na' ma' wa' cf ca ef ea xf xa] ∧ 0 ≤ (pf' 11).toInt ∧ (pf' 11).toInt + 1 ≤ (tf 6).toInt ∧ na' = na ∧ ma' = ma ∧ wa' = wa ∧ R_mp_take sn sb ta pf pf' 1) := by
  refine th_enter (by decide) (Nat.le_of_ble_eq_true rfl) ?_
  intro p e s m below meth c A ls hAe S hr hlk hnm hA hT hX hw hl hne hadm
  have hl : lv_has ls 2 [(0, .ref h), (1, .ref sk)] := hl
  have hX : (fun A U H => (oN A U H) ∧ (oP A g U H) ∧ (StLt A sk sn sb U H)) A s s.heap := by rw [hAe]; exact hX
  obtain ⟨hN, hP, hQ0⟩ := hX
  obtain ⟨st0, hQ1⟩ := hQ0
  have hZ := hP.1
  have hF0 := hP.2.1
  refine lv_aload_n S.x S.b d_Mpg_take_0 rfl (lv_at hl 0 rfl) ?_
  refine lv_aload_n S.x S.b d_Mpg_take_1 rfl (lv_at hl 0 rfl) ?_
  refine lv_aload_n S.x S.b d_Mpg_take_2 rfl (lv_at hl 1 rfl) ?_
  first | refine px_calli (pr := []) (px_runV (As := [.ref sk]) (rest := [.ref h]) S (c_mp_takes l D cs sk sn sb h r g tf ta na ma wa cf ca ef ea xf xa pf   (show 0 ≤ (pf 11).toInt from g0) (show (pf 11).toInt < (tf 6).toInt from g1) (show (tf 6).toInt ≤ 2049 from g2) (show sn ≤ 100 from g3) htk _) hT (pr := []) (pcs := [wdP cs h r g tf ta pf na ma wa cf ca ef ea xf xa]) hw (oX_call (P := (fun A U H => (oP A g U H) ∧ (StLt A sk sn sb U H))) (pr := []) (oG_and oG_P oG_QB) hw hA ⟨hP, ⟨_, hQ1⟩⟩) (px_recv hT hw 0 0 rfl rfl rfl) m12_6 m12_3 m12_5 ms_9_3 m1_21 q_Mpg_takes ⟨Nat.le_of_ble_eq_true rfl, Nat.le_of_ble_eq_true rfl⟩ hl.1 rfl (Nat.le_of_ble_eq_true rfl) d_Mpg_take_3 ⟨Nat.le_of_ble_eq_true rfl, Nat.le_of_ble_eq_true rfl⟩) hw hA (fun v4 p3 H locs hp3 hw => ?_) | (refine px_calli (pr := []) (px_runV (As := [.ref sk]) (rest := [.ref h]) S (c_mp_takes l D cs sk sn sb h r g tf ta na ma wa cf ca ef ea xf xa pf   (show 0 ≤ (pf 11).toInt from by first | exact g0 | omega) (show (pf 11).toInt < (tf 6).toInt from by first | exact g1 | omega) (show (tf 6).toInt ≤ 2049 from by first | exact g2 | omega) (show sn ≤ 100 from by first | exact g3 | omega) htk _) hT (pr := []) (pcs := [wdP cs h r g tf ta pf na ma wa cf ca ef ea xf xa]) hw (oX_call (P := (fun A U H => (oP A g U H) ∧ (StLt A sk sn sb U H))) (pr := []) (oG_and oG_P oG_QB) hw hA ⟨hP, ⟨_, hQ1⟩⟩) (px_recv hT hw 0 0 rfl rfl rfl) m12_6 m12_3 m12_5 ms_9_3 m1_21 q_Mpg_takes ⟨Nat.le_of_ble_eq_true rfl, Nat.le_of_ble_eq_true rfl⟩ hl.1 rfl (Nat.le_of_ble_eq_true rfl) d_Mpg_take_3 ⟨Nat.le_of_ble_eq_true rfl, Nat.le_of_ble_eq_true rfl⟩) hw hA (fun v4 p3 H locs hp3 hw => ?_))
  obtain ⟨pf2, rfl, e5, e6, e7, e8, e9, e10, e11, e12, e13, e14⟩ := hp3
  have e5 := z_rng e5
  have e6 : (pf2 11).toInt = (pf 11).toInt + v4.toInt := e6
  have e7 : (pf2 11).toInt < (tf 6).toInt := e7
  have e8 : bp ta (pf 11) + v4.toInt ≤ bp ta (pf2 11) := e8
  have e9 : (pf2 12).toInt = (pf 12).toInt := e9
  have e10 : (pf2 13).toInt = (pf 13).toInt := e10
  have e11 : (pf2 24).toInt = (pf 24).toInt := e11
  have e12 : (pf2 25).toInt = (pf 25).toInt := e12
  have e13 : (pf2 26).toInt = (pf 26).toInt := e13
  have e14 : R_mp_takes sn sb ta pf pf2 v4 := e14
  have lv4 := Int32.le_toInt v4
  have uv4 := Int32.toInt_lt v4
  refine th_callv (ps0 := [wdP cs h r g tf ta pf na ma wa cf ca ef ea xf xa]) (pr := [wdP cs h r g tf ta pf2 na ma wa cf ca ef ea xf xa]) (pcs := []) (As := [.int v4]) (rest := []) (c_mp_need l hlf D cs h v4) S hT hw (oX_call (P := (fun A U H => (oN A U H))) (pr := [wdP cs h r g tf ta pf2 na ma wa cf ca ef ea xf xa]) oG_N hw hA hN) (px_recv hT hw 0 0 rfl rfl rfl) m11_233 m11_230 m11_232 ms_9_0 m1_21 q_Mpg_need ⟨Nat.le_of_ble_eq_true rfl, Nat.le_of_ble_eq_true rfl⟩ hl.1 rfl (Nat.le_of_ble_eq_true rfl) d_Mpg_take_6 ⟨Nat.le_of_ble_eq_true rfl, Nat.le_of_ble_eq_true rfl⟩ hne hlk hA hAe (fun o t h => Or.inr h) ?_ (fun p15 H locs hp15 hw => ?_)
  · exact fun p1 H1 locs1 hp hw => by obtain ⟨rfl, hq0⟩ := hp; exact ⟨_, ⟨pf2, na, ma, wa, rfl, by omega, by omega, rfl, rfl, rfl, (Or.inl ⟨pf2, v4, e14, Or.inl ⟨hq0, rfl, rfl⟩⟩)⟩, hw.sub [0] rfl rfl⟩
  obtain ⟨rfl, hndp15⟩ := hp15
  have hndp15 : ¬ v4.toInt = 0 := hndp15
  first | exact th_vret S hr hlk hAe hw (⟨pf2, rfl, (show (pf2 11).toInt = (pf 11).toInt + 1 from (oz_41f81ca46e e6 e5.2 e5.1 hndp15)), (show (pf2 11).toInt < (tf 6).toInt from e7), (show bp ta (pf 11) + 1 ≤ bp ta (pf2 11) from (oz_a11d8258e2 e8 e5.1 hndp15)), (show (pf2 12).toInt = (pf 12).toInt from e9), (show (pf2 13).toInt = (pf 13).toInt from e10), (show (pf2 24).toInt = (pf 24).toInt from e11), (show (pf2 25).toInt = (pf 25).toInt from e12), (show (pf2 26).toInt = (pf 26).toInt from e13), (show R_mp_take sn sb ta pf pf2 0 from (Or.inl ⟨pf2, v4, e14, Or.inr ⟨hndp15, rfl, rfl⟩⟩))⟩) d_Mpg_take_9 | (exact th_vret S hr hlk hAe hw (⟨pf2, rfl, (show (pf2 11).toInt = (pf 11).toInt + 1 from by first | exact oz_41f81ca46e e6 e5.2 e5.1 hndp15 | omega), (show (pf2 11).toInt < (tf 6).toInt from by first | exact e7 | omega), (show bp ta (pf 11) + 1 ≤ bp ta (pf2 11) from by first | exact oz_a11d8258e2 e8 e5.1 hndp15 | omega), (show (pf2 12).toInt = (pf 12).toInt from by first | exact e9 | omega), (show (pf2 13).toInt = (pf 13).toInt from by first | exact e10 | omega), (show (pf2 24).toInt = (pf 24).toInt from by first | exact e11 | omega), (show (pf2 25).toInt = (pf 25).toInt from by first | exact e12 | omega), (show (pf2 26).toInt = (pf 26).toInt from by first | exact e13 | omega), (show R_mp_take sn sb ta pf pf2 0 from (Or.inl ⟨pf2, v4, e14, Or.inr ⟨hndp15, rfl, rfl⟩⟩))⟩) d_Mpg_take_9)
abbrev b_Mpg_opens : ByteArray := prog_16_method_23_code
def y_Mpg_opens : MethodName := ⟨"HomeSystemModel$Program", "opens", "()V"⟩
theorem d_Mpg_opens_0 : decode b_Mpg_opens 0 = .ok (.aload_n 0, 1) := by decide +kernel
theorem d_Mpg_opens_1 : decode b_Mpg_opens 1 = .ok (.aload_n 0, 1) := by decide +kernel
theorem d_Mpg_opens_2 : decode b_Mpg_opens 2 = .ok (.getfield 380, 3) := by decide +kernel
theorem d_Mpg_opens_5 : decode b_Mpg_opens 5 = .ok (.bipush 60, 2) := by decide +kernel
theorem d_Mpg_opens_7 : decode b_Mpg_opens 7 = .ok (.if_icmp .ge 7, 3) := by decide +kernel
theorem d_Mpg_opens_10 : decode b_Mpg_opens 10 = .ok (.iconst 1, 1) := by decide +kernel
theorem d_Mpg_opens_11 : decode b_Mpg_opens 11 = .ok (.goto 4, 3) := by decide +kernel
theorem d_Mpg_opens_14 : decode b_Mpg_opens 14 = .ok (.iconst 0, 1) := by decide +kernel
theorem d_Mpg_opens_15 : decode b_Mpg_opens 15 = .ok (.invokevirtual 373, 3) := by decide +kernel
theorem d_Mpg_opens_18 : decode b_Mpg_opens 18 = .ok (.aload_n 0, 1) := by decide +kernel
theorem d_Mpg_opens_19 : decode b_Mpg_opens 19 = .ok (.dup, 1) := by decide +kernel
theorem d_Mpg_opens_20 : decode b_Mpg_opens 20 = .ok (.getfield 380, 3) := by decide +kernel
theorem d_Mpg_opens_23 : decode b_Mpg_opens 23 = .ok (.iconst 1, 1) := by decide +kernel
theorem d_Mpg_opens_24 : decode b_Mpg_opens 24 = .ok (.iadd, 1) := by decide +kernel
theorem d_Mpg_opens_25 : decode b_Mpg_opens 25 = .ok (.putfield 380, 3) := by decide +kernel
theorem d_Mpg_opens_28 : decode b_Mpg_opens 28 = .ok (.aload_n 0, 1) := by decide +kernel
theorem d_Mpg_opens_29 : decode b_Mpg_opens 29 = .ok (.dup, 1) := by decide +kernel
theorem d_Mpg_opens_30 : decode b_Mpg_opens 30 = .ok (.getfield 360, 3) := by decide +kernel
theorem d_Mpg_opens_33 : decode b_Mpg_opens 33 = .ok (.iconst 1, 1) := by decide +kernel
theorem d_Mpg_opens_34 : decode b_Mpg_opens 34 = .ok (.iadd, 1) := by decide +kernel
theorem d_Mpg_opens_35 : decode b_Mpg_opens 35 = .ok (.putfield 360, 3) := by decide +kernel
theorem d_Mpg_opens_38 : decode b_Mpg_opens 38 = .ok (.return_, 1) := by decide +kernel
theorem q_Mpg_opens : px_y y_Mpg_opens 0 := by unfold px_y; decide +kernel
set_option maxHeartbeats 4000000 in
set_option maxRecDepth 100000 in
theorem c_mp_opens (l : Launch) (D : va_G) (cs : Nat → ClassId) (h : Nat) (r : Nat → Nat) (g : Nat → Nat → Option Nat) (tf : Nat → Int32) (ta : Nat → Nat → Int32) (na : Nat → Nat → Int32) (ma : Nat → Nat → Int32) (wa : Nat → Nat → Int32) (cf : Nat → Int32) (ca : Nat → Nat → Int32) (ef : Nat → Int32) (ea : Nat → Nat → Int32) (xf : Nat → Int32) (xa : Nat → Nat → Int32) (pf : Nat → Int32)  (g0 : 0 ≤ (pf 11).toInt) (g1 : (pf 11).toInt < (tf 6).toInt) (g2 : (tf 6).toInt ≤ 2049) (g3 : (pf 11).toInt + 1 < (tf 6).toInt) (g4 : 0 ≤ (pf 12).toInt) (g5 : (pf 12).toInt ≤ 60) (hlf : l.flags = pinnedFlags ++ [noTraceFlag]) (htk : TkI tf ta) : ThV l y_Mpg_opens b_Mpg_opens 1 D cs 7 150 [.ref h] [wdP cs h r g tf ta pf na ma wa cf ca ef ea xf xa] (oX (fun A U H => (oN A U H) ∧ (oP A g U H)) [wdP cs h r g tf ta pf na ma wa cf ca ef ea xf xa]) "java/lang/IllegalArgumentException" (fun ps => ∃ (pf' : Nat → Int32), (ps = [wdP cs h r g tf ta pf' na ma wa cf ca ef ea xf xa]) ∧ ((pf' 11).toInt = (pf 11).toInt + 1) ∧ ((pf' 11).toInt < (tf 6).toInt) ∧ (bp ta (pf 11) + sz ta (pf 11) ≤ bp ta (pf' 11)) ∧ (1 ≤ sz ta (pf 11)) ∧ ((pf' 12).toInt = (pf 12).toInt + 1) ∧ ((pf 12).toInt < 60) ∧ ((pf' 13).toInt = (pf 13).toInt) ∧ ((pf' 24).toInt = (pf 24).toInt) ∧ ((pf' 25).toInt = (pf 25).toInt) ∧ ((pf' 26).toInt = (pf 26).toInt) ∧ (R_mp_opens pf pf' 0)) (fun ps => ∃ (pf' : Nat → Int32) (na' : Nat → Nat → Int32) (ma' : Nat → Nat → Int32) (wa' : Nat → Nat → Int32), ps = [wdP cs h r g tf ta pf' na' ma' wa' cf ca ef ea xf xa] ∧ 0 ≤ (pf' 11).toInt ∧ (pf' 11).toInt + 1 ≤ (tf 6).toInt ∧ na' = na ∧ ma' = ma ∧ wa' = wa ∧ R_mp_opens pf pf' 1) := by
  refine th_enter (by decide) (Nat.le_of_ble_eq_true rfl) ?_
  intro p e s m below meth c A ls hAe S hr hlk hnm hA hT hX hw hl hne hadm
  have hl : lv_has ls 1 [(0, .ref h)] := hl
  have cst0 : (0 : Int32).toInt = 0 := rfl
  have cst1 : (1 : Int32).toInt = 1 := rfl
  have cst60 : (60 : Int32).toInt = 60 := rfl
  have hX : (fun A U H => (oN A U H) ∧ (oP A g U H)) A s s.heap := by rw [hAe]; exact hX
  obtain ⟨hN, hP⟩ := hX
  have hZ := hP.1
  have hF0 := hP.2.1
  refine lv_aload_n S.x S.b d_Mpg_opens_0 rfl (lv_at hl 0 rfl) ?_
  refine lv_aload_n S.x S.b d_Mpg_opens_1 rfl (lv_at hl 0 rfl) ?_
  refine gP_12 (v := (pf 12)) S hT hw 0 rfl rfl m9_236 d_Mpg_opens_2 ?_
  refine lv_bipush (v := 60) S.x S.b d_Mpg_opens_5 (by decide) ?_
  refine lv_icmp_ge (tgt := 14) S.x S.b d_Mpg_opens_7 (by decide) (fun c1 => ?_) (fun c1 => ?_)
  · have nc1 : (60 : Int) ≤ (pf 12).toInt := (i_le (x := 60) (y := (pf 12))).mp c1
    refine lv_iconst (v := 0) S.x S.b d_Mpg_opens_14 (by decide) ?_
    refine th_callv (ps0 := [wdP cs h r g tf ta pf na ma wa cf ca ef ea xf xa]) (pr := [wdP cs h r g tf ta pf na ma wa cf ca ef ea xf xa]) (pcs := []) (As := [.int 0]) (rest := []) (c_mp_need l hlf D cs h 0) S hT hw (oX_call (P := (fun A U H => (oN A U H))) (pr := [wdP cs h r g tf ta pf na ma wa cf ca ef ea xf xa]) oG_N hw hA hN) (px_recv hT hw 0 0 rfl rfl rfl) m11_233 m11_230 m11_232 ms_9_0 m1_21 q_Mpg_need ⟨Nat.le_of_ble_eq_true rfl, Nat.le_of_ble_eq_true rfl⟩ hl.1 rfl (Nat.le_of_ble_eq_true rfl) d_Mpg_opens_15 ⟨Nat.le_of_ble_eq_true rfl, Nat.le_of_ble_eq_true rfl⟩ hne hlk hA hAe (fun o t h => Or.inr h) ?_ (fun p3 H locs hp3 hw => ?_)
    · exact fun p1 H1 locs1 hp hw => by obtain ⟨rfl, hq0⟩ := hp; exact ⟨_, ⟨pf, na, ma, wa, rfl, by omega, by omega, rfl, rfl, rfl, (Or.inl (Or.inl ⟨nc1, Or.inl ⟨hq0, rfl, rfl⟩⟩))⟩, hw.sub [0] rfl rfl⟩
    obtain ⟨rfl, hndp3⟩ := hp3
    have hndp3 : ¬ (0 : Int) = 0 := hndp3
    refine lv_aload_n S.x S.b d_Mpg_opens_18 rfl (lv_at hl 0 rfl) ?_
    refine lv_dup S.x S.b d_Mpg_opens_19 rfl ?_
    refine gP_12 (v := (pf 12)) S hT hw 0 rfl rfl m9_236 d_Mpg_opens_20 ?_
    refine lv_iconst (v := 1) S.x S.b d_Mpg_opens_23 (by decide) ?_
    refine lv_iadd S.x S.b d_Mpg_opens_24 ?_
    have lr5 := Int32.le_toInt (pf 12)
    have ur5 := Int32.toInt_lt (pf 12)
    refine lv_topi (fun z6 ez6 => ?_)
    have tz6 : z6.toInt = ((pf 12).toInt + (1 : Int) + 2147483648) % 4294967296 - 2147483648 := by rw [ez6]; exact i_add (pf 12) 1
    have lz6 := Int32.le_toInt z6
    have uz6 := Int32.toInt_lt z6
    try replace tz6 : z6.toInt = (pf 12).toInt + (1 : Int) := by omega
    refine pP_12 S hT hw 0 rfl m9_236 rfl rfl rfl d_Mpg_opens_25 (ps' := [wdP cs h r g tf ta (upd pf 12 z6) na ma wa cf ca ef ea xf xa]) rfl (fun H locs hw => ?_)
    refine lv_aload_n S.x S.b d_Mpg_opens_28 rfl (lv_at hl 0 rfl) ?_
    refine lv_dup S.x S.b d_Mpg_opens_29 rfl ?_
    refine gP_11 (v := (pf 11)) S hT hw 0 rfl rfl m9_235 d_Mpg_opens_30 ?_
    refine lv_iconst (v := 1) S.x S.b d_Mpg_opens_33 (by decide) ?_
    refine lv_iadd S.x S.b d_Mpg_opens_34 ?_
    have lr7 := Int32.le_toInt (pf 11)
    have ur7 := Int32.toInt_lt (pf 11)
    refine lv_topi (fun z8 ez8 => ?_)
    have tz8 : z8.toInt = ((pf 11).toInt + (1 : Int) + 2147483648) % 4294967296 - 2147483648 := by rw [ez8]; exact i_add (pf 11) 1
    have lz8 := Int32.le_toInt z8
    have uz8 := Int32.toInt_lt z8
    try replace tz8 : z8.toInt = (pf 11).toInt + (1 : Int) := by omega
    have hnx := tk_n htk (x := (pf 11)) (y := z8) (by omega) (by omega) (by omega)
    refine pP_11 S hT hw 0 rfl m9_235 rfl rfl rfl d_Mpg_opens_35 (ps' := [wdP cs h r g tf ta (upd (upd pf 11 z8) 12 z6) na ma wa cf ca ef ea xf xa]) rfl (fun H locs hw => ?_)
    first | exact th_vret S hr hlk hAe hw (⟨(upd (upd pf 11 z8) 12 z6), rfl, (show z8.toInt = (pf 11).toInt + 1 from (oz_037caa6b79 tz8)), (show z8.toInt < (tf 6).toInt from (oz_aa088a5f4c g3 tz8)), (show bp ta (pf 11) + sz ta (pf 11) ≤ bp ta z8 from hnx.1), (show 1 ≤ sz ta (pf 11) from hnx.2), (show z6.toInt = (pf 12).toInt + 1 from (oz_037caa6b79 tz6)), (show (pf 12).toInt < 60 from by omega), (show (pf 13).toInt = (pf 13).toInt from rfl), (show (pf 24).toInt = (pf 24).toInt from rfl), (show (pf 25).toInt = (pf 25).toInt from rfl), (show (pf 26).toInt = (pf 26).toInt from rfl), (show R_mp_opens pf (upd (upd pf 11 z8) 12 z6) 0 from (Or.inl (Or.inl ⟨nc1, Or.inr ⟨hndp3, z6, ez6, z8, ez8, rfl, rfl⟩⟩)))⟩) d_Mpg_opens_38 | (exact th_vret S hr hlk hAe hw (⟨(upd (upd pf 11 z8) 12 z6), rfl, (show z8.toInt = (pf 11).toInt + 1 from by first | exact oz_037caa6b79 tz8 | omega), (show z8.toInt < (tf 6).toInt from by first | exact oz_aa088a5f4c g3 tz8 | omega), (show bp ta (pf 11) + sz ta (pf 11) ≤ bp ta z8 from by first | exact hnx.1 | omega), (show 1 ≤ sz ta (pf 11) from by first | exact hnx.2 | omega), (show z6.toInt = (pf 12).toInt + 1 from by first | exact oz_037caa6b79 tz6 | omega), (show (pf 12).toInt < 60 from by omega), (show (pf 13).toInt = (pf 13).toInt from rfl), (show (pf 24).toInt = (pf 24).toInt from rfl), (show (pf 25).toInt = (pf 25).toInt from rfl), (show (pf 26).toInt = (pf 26).toInt from rfl), (show R_mp_opens pf (upd (upd pf 11 z8) 12 z6) 0 from (Or.inl (Or.inl ⟨nc1, Or.inr ⟨hndp3, z6, ez6, z8, ez8, rfl, rfl⟩⟩)))⟩) d_Mpg_opens_38)
  · have nc1 : ¬ (60 : Int) ≤ (pf 12).toInt := mt (i_le (x := 60) (y := (pf 12))).mpr c1
    refine lv_iconst (v := 1) S.x S.b d_Mpg_opens_10 (by decide) ?_
    refine lv_goto (tgt := 15) S.x S.b d_Mpg_opens_11 (by decide) ?_
    refine th_callv (ps0 := [wdP cs h r g tf ta pf na ma wa cf ca ef ea xf xa]) (pr := [wdP cs h r g tf ta pf na ma wa cf ca ef ea xf xa]) (pcs := []) (As := [.int 1]) (rest := []) (c_mp_need l hlf D cs h 1) S hT hw (oX_call (P := (fun A U H => (oN A U H))) (pr := [wdP cs h r g tf ta pf na ma wa cf ca ef ea xf xa]) oG_N hw hA hN) (px_recv hT hw 0 0 rfl rfl rfl) m11_233 m11_230 m11_232 ms_9_0 m1_21 q_Mpg_need ⟨Nat.le_of_ble_eq_true rfl, Nat.le_of_ble_eq_true rfl⟩ hl.1 rfl (Nat.le_of_ble_eq_true rfl) d_Mpg_opens_15 ⟨Nat.le_of_ble_eq_true rfl, Nat.le_of_ble_eq_true rfl⟩ hne hlk hA hAe (fun o t h => Or.inr h) ?_ (fun p9 H locs hp9 hw => ?_)
    · exact fun p1 H1 locs1 hp hw => by obtain ⟨rfl, hq0⟩ := hp; exact ⟨_, ⟨pf, na, ma, wa, rfl, by omega, by omega, rfl, rfl, rfl, (Or.inl (Or.inr ⟨nc1, Or.inl ⟨hq0, rfl, rfl⟩⟩))⟩, hw.sub [0] rfl rfl⟩
    obtain ⟨rfl, hndp9⟩ := hp9
    have hndp9 : ¬ (1 : Int) = 0 := hndp9
    refine lv_aload_n S.x S.b d_Mpg_opens_18 rfl (lv_at hl 0 rfl) ?_
    refine lv_dup S.x S.b d_Mpg_opens_19 rfl ?_
    refine gP_12 (v := (pf 12)) S hT hw 0 rfl rfl m9_236 d_Mpg_opens_20 ?_
    refine lv_iconst (v := 1) S.x S.b d_Mpg_opens_23 (by decide) ?_
    refine lv_iadd S.x S.b d_Mpg_opens_24 ?_
    have lr11 := Int32.le_toInt (pf 12)
    have ur11 := Int32.toInt_lt (pf 12)
    refine lv_topi (fun z12 ez12 => ?_)
    have tz12 : z12.toInt = ((pf 12).toInt + (1 : Int) + 2147483648) % 4294967296 - 2147483648 := by rw [ez12]; exact i_add (pf 12) 1
    have lz12 := Int32.le_toInt z12
    have uz12 := Int32.toInt_lt z12
    try replace tz12 : z12.toInt = (pf 12).toInt + (1 : Int) := by omega
    refine pP_12 S hT hw 0 rfl m9_236 rfl rfl rfl d_Mpg_opens_25 (ps' := [wdP cs h r g tf ta (upd pf 12 z12) na ma wa cf ca ef ea xf xa]) rfl (fun H locs hw => ?_)
    refine lv_aload_n S.x S.b d_Mpg_opens_28 rfl (lv_at hl 0 rfl) ?_
    refine lv_dup S.x S.b d_Mpg_opens_29 rfl ?_
    refine gP_11 (v := (pf 11)) S hT hw 0 rfl rfl m9_235 d_Mpg_opens_30 ?_
    refine lv_iconst (v := 1) S.x S.b d_Mpg_opens_33 (by decide) ?_
    refine lv_iadd S.x S.b d_Mpg_opens_34 ?_
    have lr13 := Int32.le_toInt (pf 11)
    have ur13 := Int32.toInt_lt (pf 11)
    refine lv_topi (fun z14 ez14 => ?_)
    have tz14 : z14.toInt = ((pf 11).toInt + (1 : Int) + 2147483648) % 4294967296 - 2147483648 := by rw [ez14]; exact i_add (pf 11) 1
    have lz14 := Int32.le_toInt z14
    have uz14 := Int32.toInt_lt z14
    try replace tz14 : z14.toInt = (pf 11).toInt + (1 : Int) := by omega
    have hnx := tk_n htk (x := (pf 11)) (y := z14) (by omega) (by omega) (by omega)
    refine pP_11 S hT hw 0 rfl m9_235 rfl rfl rfl d_Mpg_opens_35 (ps' := [wdP cs h r g tf ta (upd (upd pf 11 z14) 12 z12) na ma wa cf ca ef ea xf xa]) rfl (fun H locs hw => ?_)
    first | exact th_vret S hr hlk hAe hw (⟨(upd (upd pf 11 z14) 12 z12), rfl, (show z14.toInt = (pf 11).toInt + 1 from (oz_037caa6b79 tz14)), (show z14.toInt < (tf 6).toInt from (oz_aa088a5f4c g3 tz14)), (show bp ta (pf 11) + sz ta (pf 11) ≤ bp ta z14 from hnx.1), (show 1 ≤ sz ta (pf 11) from hnx.2), (show z12.toInt = (pf 12).toInt + 1 from (oz_037caa6b79 tz12)), (show (pf 12).toInt < 60 from (oz_2cd93d640a nc1)), (show (pf 13).toInt = (pf 13).toInt from rfl), (show (pf 24).toInt = (pf 24).toInt from rfl), (show (pf 25).toInt = (pf 25).toInt from rfl), (show (pf 26).toInt = (pf 26).toInt from rfl), (show R_mp_opens pf (upd (upd pf 11 z14) 12 z12) 0 from (Or.inl (Or.inr ⟨nc1, Or.inr ⟨hndp9, z12, ez12, z14, ez14, rfl, rfl⟩⟩)))⟩) d_Mpg_opens_38 | (exact th_vret S hr hlk hAe hw (⟨(upd (upd pf 11 z14) 12 z12), rfl, (show z14.toInt = (pf 11).toInt + 1 from by first | exact oz_037caa6b79 tz14 | omega), (show z14.toInt < (tf 6).toInt from by first | exact oz_aa088a5f4c g3 tz14 | omega), (show bp ta (pf 11) + sz ta (pf 11) ≤ bp ta z14 from by first | exact hnx.1 | omega), (show 1 ≤ sz ta (pf 11) from by first | exact hnx.2 | omega), (show z12.toInt = (pf 12).toInt + 1 from by first | exact oz_037caa6b79 tz12 | omega), (show (pf 12).toInt < 60 from by first | exact oz_2cd93d640a nc1 | omega), (show (pf 13).toInt = (pf 13).toInt from rfl), (show (pf 24).toInt = (pf 24).toInt from rfl), (show (pf 25).toInt = (pf 25).toInt from rfl), (show (pf 26).toInt = (pf 26).toInt from rfl), (show R_mp_opens pf (upd (upd pf 11 z14) 12 z12) 0 from (Or.inl (Or.inr ⟨nc1, Or.inr ⟨hndp9, z12, ez12, z14, ez14, rfl, rfl⟩⟩)))⟩) d_Mpg_opens_38)
abbrev b_Mpg_opensMark : ByteArray := prog_16_method_24_code
def y_Mpg_opensMark : MethodName := ⟨"HomeSystemModel$Program", "opensMark", "(Ljava/lang/String;)V"⟩
theorem d_Mpg_opensMark_0 : decode b_Mpg_opensMark 0 = .ok (.aload_n 0, 1) := by decide +kernel
theorem d_Mpg_opensMark_1 : decode b_Mpg_opensMark 1 = .ok (.aload_n 0, 1) := by decide +kernel
theorem d_Mpg_opensMark_2 : decode b_Mpg_opensMark 2 = .ok (.aload_n 1, 1) := by decide +kernel
theorem d_Mpg_opensMark_3 : decode b_Mpg_opensMark 3 = .ok (.invokevirtual 366, 3) := by decide +kernel
theorem d_Mpg_opensMark_6 : decode b_Mpg_opensMark 6 = .ok (.invokevirtual 373, 3) := by decide +kernel
theorem d_Mpg_opensMark_9 : decode b_Mpg_opensMark 9 = .ok (.aload_n 0, 1) := by decide +kernel
theorem d_Mpg_opensMark_10 : decode b_Mpg_opensMark 10 = .ok (.invokevirtual 383, 3) := by decide +kernel
theorem d_Mpg_opensMark_13 : decode b_Mpg_opensMark 13 = .ok (.return_, 1) := by decide +kernel
theorem q_Mpg_opensMark : px_y y_Mpg_opensMark 1 := by unfold px_y; decide +kernel
set_option maxHeartbeats 4000000 in
set_option maxRecDepth 100000 in
theorem c_mp_opensMark (l : Launch) (D : va_G) (cs : Nat → ClassId) (sk : Nat) (sn : Nat) (sb : Nat → Int32) (h : Nat) (r : Nat → Nat) (g : Nat → Nat → Option Nat) (tf : Nat → Int32) (ta : Nat → Nat → Int32) (na : Nat → Nat → Int32) (ma : Nat → Nat → Int32) (wa : Nat → Nat → Int32) (cf : Nat → Int32) (ca : Nat → Nat → Int32) (ef : Nat → Int32) (ea : Nat → Nat → Int32) (xf : Nat → Int32) (xa : Nat → Nat → Int32) (pf : Nat → Int32)  (g0 : 0 ≤ (pf 11).toInt) (g1 : (pf 11).toInt < (tf 6).toInt) (g2 : (tf 6).toInt ≤ 2049) (g3 : 0 ≤ (pf 12).toInt) (g4 : (pf 12).toInt ≤ 60) (g5 : sn ≤ 100) (hlf : l.flags = pinnedFlags ++ [noTraceFlag]) (htk : TkI tf ta) : ThV l y_Mpg_opensMark b_Mpg_opensMark 2 D cs 8 240 [.ref h, .ref sk] [wdP cs h r g tf ta pf na ma wa cf ca ef ea xf xa] (oX (fun A U H => (oN A U H) ∧ (oP A g U H) ∧ (StLt A sk sn sb U H)) [wdP cs h r g tf ta pf na ma wa cf ca ef ea xf xa]) "java/lang/IllegalArgumentException" (fun ps => ∃ (pf' : Nat → Int32), (ps = [wdP cs h r g tf ta pf' na ma wa cf ca ef ea xf xa]) ∧ ((pf' 11).toInt = (pf 11).toInt + 1) ∧ ((pf' 11).toInt < (tf 6).toInt) ∧ (bp ta (pf 11) + sz ta (pf 11) ≤ bp ta (pf' 11)) ∧ (1 ≤ sz ta (pf 11)) ∧ ((pf' 12).toInt = (pf 12).toInt + 1) ∧ ((pf 12).toInt < 60) ∧ ((pf' 13).toInt = (pf 13).toInt) ∧ ((pf' 24).toInt = (pf 24).toInt) ∧ ((pf' 25).toInt = (pf 25).toInt) ∧ ((pf' 26).toInt = (pf 26).toInt) ∧ (R_mp_opensMark sn sb ta pf pf' 0)) (fun ps => ∃ (pf' : Nat → Int32) (na' : Nat → Nat → Int32) (ma' : Nat → Nat → Int32) (wa' : Nat → Nat → Int32), ps = [wdP cs h r g tf ta pf' na' ma' wa' cf ca ef ea xf xa] ∧ 0 ≤ (pf' 11).toInt ∧ (pf' 11).toInt + 1 ≤ (tf 6).toInt ∧ na' = na ∧ ma' = ma ∧ wa' = wa ∧ R_mp_opensMark sn sb ta pf pf' 1) := by
  refine th_enter (by decide) (Nat.le_of_ble_eq_true rfl) ?_
  intro p e s m below meth c A ls hAe S hr hlk hnm hA hT hX hw hl hne hadm
  have hl : lv_has ls 2 [(0, .ref h), (1, .ref sk)] := hl
  have hX : (fun A U H => (oN A U H) ∧ (oP A g U H) ∧ (StLt A sk sn sb U H)) A s s.heap := by rw [hAe]; exact hX
  obtain ⟨hN, hP, hQ0⟩ := hX
  obtain ⟨st0, hQ1⟩ := hQ0
  have hZ := hP.1
  have hF0 := hP.2.1
  refine lv_aload_n S.x S.b d_Mpg_opensMark_0 rfl (lv_at hl 0 rfl) ?_
  refine lv_aload_n S.x S.b d_Mpg_opensMark_1 rfl (lv_at hl 0 rfl) ?_
  refine lv_aload_n S.x S.b d_Mpg_opensMark_2 rfl (lv_at hl 1 rfl) ?_
  first | refine px_calli (pr := []) (px_runV (As := [.ref sk]) (rest := [.ref h]) S (c_mp_is l D cs sk sn sb h r g tf ta pf na ma wa cf ca ef ea xf xa   (show 0 ≤ (pf 11).toInt from g0) (show (pf 11).toInt < (tf 6).toInt from g1) (show (tf 6).toInt ≤ 2049 from g2) (show sn ≤ 100 from g5) htk _) hT (pr := []) (pcs := [wdP cs h r g tf ta pf na ma wa cf ca ef ea xf xa]) hw (oX_call (P := (fun A U H => (oP A g U H) ∧ (StLt A sk sn sb U H))) (pr := []) (oG_and oG_P oG_QB) hw hA ⟨hP, ⟨_, hQ1⟩⟩) (px_recv hT hw 0 0 rfl rfl rfl) m11_217 m11_214 m11_216 ms_8_14 m1_21 q_Mpg_is ⟨Nat.le_of_ble_eq_true rfl, Nat.le_of_ble_eq_true rfl⟩ hl.1 rfl (Nat.le_of_ble_eq_true rfl) d_Mpg_opensMark_3 ⟨Nat.le_of_ble_eq_true rfl, Nat.le_of_ble_eq_true rfl⟩) hw hA (fun v2 p1 H locs hp1 hw => ?_) | (refine px_calli (pr := []) (px_runV (As := [.ref sk]) (rest := [.ref h]) S (c_mp_is l D cs sk sn sb h r g tf ta pf na ma wa cf ca ef ea xf xa   (show 0 ≤ (pf 11).toInt from by first | exact g0 | omega) (show (pf 11).toInt < (tf 6).toInt from by first | exact g1 | omega) (show (tf 6).toInt ≤ 2049 from by first | exact g2 | omega) (show sn ≤ 100 from by first | exact g5 | omega) htk _) hT (pr := []) (pcs := [wdP cs h r g tf ta pf na ma wa cf ca ef ea xf xa]) hw (oX_call (P := (fun A U H => (oP A g U H) ∧ (StLt A sk sn sb U H))) (pr := []) (oG_and oG_P oG_QB) hw hA ⟨hP, ⟨_, hQ1⟩⟩) (px_recv hT hw 0 0 rfl rfl rfl) m11_217 m11_214 m11_216 ms_8_14 m1_21 q_Mpg_is ⟨Nat.le_of_ble_eq_true rfl, Nat.le_of_ble_eq_true rfl⟩ hl.1 rfl (Nat.le_of_ble_eq_true rfl) d_Mpg_opensMark_3 ⟨Nat.le_of_ble_eq_true rfl, Nat.le_of_ble_eq_true rfl⟩) hw hA (fun v2 p1 H locs hp1 hw => ?_))
  obtain ⟨rfl, e3, e4, e5⟩ := hp1
  have e3 := z_rng e3
  have e4 : v2.toInt = 1 → (pf 11).toInt + 1 < (tf 6).toInt ∧ so ta (pf 11) = 5 := e4
  have e5 : R_mp_is sn sb ta pf v2 := e5
  have lv2 := Int32.le_toInt v2
  have uv2 := Int32.toInt_lt v2
  refine th_callv (ps0 := [wdP cs h r g tf ta pf na ma wa cf ca ef ea xf xa]) (pr := [wdP cs h r g tf ta pf na ma wa cf ca ef ea xf xa]) (pcs := []) (As := [.int v2]) (rest := []) (c_mp_need l hlf D cs h v2) S hT hw (oX_call (P := (fun A U H => (oN A U H))) (pr := [wdP cs h r g tf ta pf na ma wa cf ca ef ea xf xa]) oG_N hw hA hN) (px_recv hT hw 0 0 rfl rfl rfl) m11_233 m11_230 m11_232 ms_9_0 m1_21 q_Mpg_need ⟨Nat.le_of_ble_eq_true rfl, Nat.le_of_ble_eq_true rfl⟩ hl.1 rfl (Nat.le_of_ble_eq_true rfl) d_Mpg_opensMark_6 ⟨Nat.le_of_ble_eq_true rfl, Nat.le_of_ble_eq_true rfl⟩ hne hlk hA hAe (fun o t h => Or.inr h) ?_ (fun p6 H locs hp6 hw => ?_)
  · exact fun p1 H1 locs1 hp hw => by obtain ⟨rfl, hq0⟩ := hp; exact ⟨_, ⟨pf, na, ma, wa, rfl, by omega, by omega, rfl, rfl, rfl, (Or.inl ⟨v2, e5, Or.inl ⟨hq0, rfl, rfl⟩⟩)⟩, hw.sub [0] rfl rfl⟩
  obtain ⟨rfl, hndp6⟩ := hp6
  have hndp6 : ¬ v2.toInt = 0 := hndp6
  refine lv_aload_n S.x S.b d_Mpg_opensMark_9 rfl (lv_at hl 0 rfl) ?_
  first | refine th_callv (ps0 := [wdP cs h r g tf ta pf na ma wa cf ca ef ea xf xa]) (pr := []) (pcs := [wdP cs h r g tf ta pf na ma wa cf ca ef ea xf xa]) (As := []) (rest := []) (c_mp_opens l D cs h r g tf ta na ma wa cf ca ef ea xf xa pf   (show 0 ≤ (pf 11).toInt from g0) (show (pf 11).toInt < (tf 6).toInt from g1) (show (tf 6).toInt ≤ 2049 from g2) (show (pf 11).toInt + 1 < (tf 6).toInt from by omega) (show 0 ≤ (pf 12).toInt from g3) (show (pf 12).toInt ≤ 60 from g4) hlf htk) S hT hw (oX_call (P := (fun A U H => (oN A U H) ∧ (oP A g U H))) (pr := []) (oG_and oG_N oG_P) hw hA ⟨hN, hP⟩) (px_recv hT hw 0 0 rfl rfl rfl) m11_238 m11_235 m11_237 ms_9_1 m1_21 q_Mpg_opens ⟨Nat.le_of_ble_eq_true rfl, Nat.le_of_ble_eq_true rfl⟩ hl.1 rfl (Nat.le_of_ble_eq_true rfl) d_Mpg_opensMark_10 ⟨Nat.le_of_ble_eq_true rfl, Nat.le_of_ble_eq_true rfl⟩ hne hlk hA hAe (fun o t h => Or.inr h) ?_ (fun p10 H locs hp10 hw => ?_) | (refine th_callv (ps0 := [wdP cs h r g tf ta pf na ma wa cf ca ef ea xf xa]) (pr := []) (pcs := [wdP cs h r g tf ta pf na ma wa cf ca ef ea xf xa]) (As := []) (rest := []) (c_mp_opens l D cs h r g tf ta na ma wa cf ca ef ea xf xa pf   (show 0 ≤ (pf 11).toInt from by first | exact g0 | omega) (show (pf 11).toInt < (tf 6).toInt from by first | exact g1 | omega) (show (tf 6).toInt ≤ 2049 from by first | exact g2 | omega) (show (pf 11).toInt + 1 < (tf 6).toInt from by omega) (show 0 ≤ (pf 12).toInt from by first | exact g3 | omega) (show (pf 12).toInt ≤ 60 from by first | exact g4 | omega) hlf htk) S hT hw (oX_call (P := (fun A U H => (oN A U H) ∧ (oP A g U H))) (pr := []) (oG_and oG_N oG_P) hw hA ⟨hN, hP⟩) (px_recv hT hw 0 0 rfl rfl rfl) m11_238 m11_235 m11_237 ms_9_1 m1_21 q_Mpg_opens ⟨Nat.le_of_ble_eq_true rfl, Nat.le_of_ble_eq_true rfl⟩ hl.1 rfl (Nat.le_of_ble_eq_true rfl) d_Mpg_opensMark_10 ⟨Nat.le_of_ble_eq_true rfl, Nat.le_of_ble_eq_true rfl⟩ hne hlk hA hAe (fun o t h => Or.inr h) ?_ (fun p10 H locs hp10 hw => ?_))
  · exact fun p1 H1 locs1 hp hw => by obtain ⟨pq1, pq2, pq3, pq4, rfl, hq1, hq2, hu_na, hu_ma, hu_wa, hq3⟩ := hp; exact ⟨_, ⟨pq1, pq2, pq3, pq4, rfl, hq1, hq2, hu_na, hu_ma, hu_wa, (Or.inl ⟨v2, e5, Or.inr ⟨hndp6, Or.inl ⟨pq1, hq3, rfl, rfl⟩⟩⟩)⟩, hw⟩
  obtain ⟨pf9, rfl, e12, e13, e14, e15, e16, e17, e18, e19, e20, e21, e22⟩ := hp10
  have e12 : (pf9 11).toInt = (pf 11).toInt + 1 := e12
  have e13 : (pf9 11).toInt < (tf 6).toInt := e13
  have e14 : bp ta (pf 11) + sz ta (pf 11) ≤ bp ta (pf9 11) := e14
  have e15 : 1 ≤ sz ta (pf 11) := e15
  have e16 : (pf9 12).toInt = (pf 12).toInt + 1 := e16
  have e17 : (pf 12).toInt < 60 := e17
  have e18 : (pf9 13).toInt = (pf 13).toInt := e18
  have e19 : (pf9 24).toInt = (pf 24).toInt := e19
  have e20 : (pf9 25).toInt = (pf 25).toInt := e20
  have e21 : (pf9 26).toInt = (pf 26).toInt := e21
  have e22 : R_mp_opens pf pf9 0 := e22
  first | exact th_vret S hr hlk hAe hw (⟨pf9, rfl, (show (pf9 11).toInt = (pf 11).toInt + 1 from e12), (show (pf9 11).toInt < (tf 6).toInt from e13), (show bp ta (pf 11) + sz ta (pf 11) ≤ bp ta (pf9 11) from e14), (show 1 ≤ sz ta (pf 11) from e15), (show (pf9 12).toInt = (pf 12).toInt + 1 from e16), (show (pf 12).toInt < 60 from e17), (show (pf9 13).toInt = (pf 13).toInt from e18), (show (pf9 24).toInt = (pf 24).toInt from e19), (show (pf9 25).toInt = (pf 25).toInt from e20), (show (pf9 26).toInt = (pf 26).toInt from e21), (show R_mp_opensMark sn sb ta pf pf9 0 from (Or.inl ⟨v2, e5, Or.inr ⟨hndp6, Or.inr ⟨pf9, e22, rfl, rfl⟩⟩⟩))⟩) d_Mpg_opensMark_13 | (exact th_vret S hr hlk hAe hw (⟨pf9, rfl, (show (pf9 11).toInt = (pf 11).toInt + 1 from by first | exact e12 | omega), (show (pf9 11).toInt < (tf 6).toInt from by first | exact e13 | omega), (show bp ta (pf 11) + sz ta (pf 11) ≤ bp ta (pf9 11) from by first | exact e14 | omega), (show 1 ≤ sz ta (pf 11) from by first | exact e15 | omega), (show (pf9 12).toInt = (pf 12).toInt + 1 from by first | exact e16 | omega), (show (pf 12).toInt < 60 from by first | exact e17 | omega), (show (pf9 13).toInt = (pf 13).toInt from by first | exact e18 | omega), (show (pf9 24).toInt = (pf 24).toInt from by first | exact e19 | omega), (show (pf9 25).toInt = (pf 25).toInt from by first | exact e20 | omega), (show (pf9 26).toInt = (pf 26).toInt from by first | exact e21 | omega), (show R_mp_opensMark sn sb ta pf pf9 0 from (Or.inl ⟨v2, e5, Or.inr ⟨hndp6, Or.inr ⟨pf9, e22, rfl, rfl⟩⟩⟩))⟩) d_Mpg_opensMark_13)
abbrev b_Mpg_closes : ByteArray := prog_16_method_25_code
def y_Mpg_closes : MethodName := ⟨"HomeSystemModel$Program", "closes", "(Ljava/lang/String;)V"⟩
theorem d_Mpg_closes_0 : decode b_Mpg_closes 0 = .ok (.aload_n 0, 1) := by decide +kernel
theorem d_Mpg_closes_1 : decode b_Mpg_closes 1 = .ok (.aload_n 1, 1) := by decide +kernel
theorem d_Mpg_closes_2 : decode b_Mpg_closes 2 = .ok (.invokevirtual 386, 3) := by decide +kernel
theorem d_Mpg_closes_5 : decode b_Mpg_closes 5 = .ok (.aload_n 0, 1) := by decide +kernel
theorem d_Mpg_closes_6 : decode b_Mpg_closes 6 = .ok (.dup, 1) := by decide +kernel
theorem d_Mpg_closes_7 : decode b_Mpg_closes 7 = .ok (.getfield 380, 3) := by decide +kernel
theorem d_Mpg_closes_10 : decode b_Mpg_closes 10 = .ok (.iconst 1, 1) := by decide +kernel
theorem d_Mpg_closes_11 : decode b_Mpg_closes 11 = .ok (.isub, 1) := by decide +kernel
theorem d_Mpg_closes_12 : decode b_Mpg_closes 12 = .ok (.putfield 380, 3) := by decide +kernel
theorem d_Mpg_closes_15 : decode b_Mpg_closes 15 = .ok (.return_, 1) := by decide +kernel
theorem q_Mpg_closes : px_y y_Mpg_closes 1 := by unfold px_y; decide +kernel
set_option maxHeartbeats 4000000 in
set_option maxRecDepth 100000 in
theorem c_mp_closes (l : Launch) (D : va_G) (cs : Nat → ClassId) (sk : Nat) (sn : Nat) (sb : Nat → Int32) (h : Nat) (r : Nat → Nat) (g : Nat → Nat → Option Nat) (tf : Nat → Int32) (ta : Nat → Nat → Int32) (na : Nat → Nat → Int32) (ma : Nat → Nat → Int32) (wa : Nat → Nat → Int32) (cf : Nat → Int32) (ca : Nat → Nat → Int32) (ef : Nat → Int32) (ea : Nat → Nat → Int32) (xf : Nat → Int32) (xa : Nat → Nat → Int32) (pf : Nat → Int32)  (g0 : 0 ≤ (pf 11).toInt) (g1 : (pf 11).toInt < (tf 6).toInt) (g2 : (tf 6).toInt ≤ 2049) (g3 : 1 ≤ (pf 12).toInt) (g4 : (pf 12).toInt ≤ 60) (g5 : sn ≤ 100) (hlf : l.flags = pinnedFlags ++ [noTraceFlag]) (htk : TkI tf ta) : ThV l y_Mpg_closes b_Mpg_closes 2 D cs 8 280 [.ref h, .ref sk] [wdP cs h r g tf ta pf na ma wa cf ca ef ea xf xa] (oX (fun A U H => (oN A U H) ∧ (oP A g U H) ∧ (StLt A sk sn sb U H)) [wdP cs h r g tf ta pf na ma wa cf ca ef ea xf xa]) "java/lang/IllegalArgumentException" (fun ps => ∃ (pf' : Nat → Int32), (ps = [wdP cs h r g tf ta pf' na ma wa cf ca ef ea xf xa]) ∧ ((pf' 11).toInt = (pf 11).toInt + 1) ∧ ((pf' 11).toInt < (tf 6).toInt) ∧ (bp ta (pf 11) + 1 ≤ bp ta (pf' 11)) ∧ ((pf' 12).toInt = (pf 12).toInt - 1) ∧ ((pf' 13).toInt = (pf 13).toInt) ∧ ((pf' 24).toInt = (pf 24).toInt) ∧ ((pf' 25).toInt = (pf 25).toInt) ∧ ((pf' 26).toInt = (pf 26).toInt) ∧ (R_mp_closes sn sb ta pf pf' 0)) (fun ps => ∃ (pf' : Nat → Int32) (na' : Nat → Nat → Int32) (ma' : Nat → Nat → Int32) (wa' : Nat → Nat → Int32), ps = [wdP cs h r g tf ta pf' na' ma' wa' cf ca ef ea xf xa] ∧ 0 ≤ (pf' 11).toInt ∧ (pf' 11).toInt + 1 ≤ (tf 6).toInt ∧ na' = na ∧ ma' = ma ∧ wa' = wa ∧ R_mp_closes sn sb ta pf pf' 1) := by
  refine th_enter (by decide) (Nat.le_of_ble_eq_true rfl) ?_
  intro p e s m below meth c A ls hAe S hr hlk hnm hA hT hX hw hl hne hadm
  have hl : lv_has ls 2 [(0, .ref h), (1, .ref sk)] := hl
  have cst1 : (1 : Int32).toInt = 1 := rfl
  have hX : (fun A U H => (oN A U H) ∧ (oP A g U H) ∧ (StLt A sk sn sb U H)) A s s.heap := by rw [hAe]; exact hX
  obtain ⟨hN, hP, hQ0⟩ := hX
  obtain ⟨st0, hQ1⟩ := hQ0
  have hZ := hP.1
  have hF0 := hP.2.1
  refine lv_aload_n S.x S.b d_Mpg_closes_0 rfl (lv_at hl 0 rfl) ?_
  refine lv_aload_n S.x S.b d_Mpg_closes_1 rfl (lv_at hl 1 rfl) ?_
  first | refine th_callv (ps0 := [wdP cs h r g tf ta pf na ma wa cf ca ef ea xf xa]) (pr := []) (pcs := [wdP cs h r g tf ta pf na ma wa cf ca ef ea xf xa]) (As := [.ref sk]) (rest := []) (c_mp_take l D cs sk sn sb h r g tf ta na ma wa cf ca ef ea xf xa pf   (show 0 ≤ (pf 11).toInt from g0) (show (pf 11).toInt < (tf 6).toInt from g1) (show (tf 6).toInt ≤ 2049 from g2) (show sn ≤ 100 from g5) hlf htk) S hT hw (oX_call (P := (fun A U H => (oN A U H) ∧ (oP A g U H) ∧ (StLt A sk sn sb U H))) (pr := []) (oG_and oG_N (oG_and oG_P oG_QB)) hw hA ⟨hN, hP, ⟨_, hQ1⟩⟩) (px_recv hT hw 0 0 rfl rfl rfl) m12_57 m12_54 m12_56 ms_9_15 m1_21 q_Mpg_take ⟨Nat.le_of_ble_eq_true rfl, Nat.le_of_ble_eq_true rfl⟩ hl.1 rfl (Nat.le_of_ble_eq_true rfl) d_Mpg_closes_2 ⟨Nat.le_of_ble_eq_true rfl, Nat.le_of_ble_eq_true rfl⟩ hne hlk hA hAe (fun o t h => Or.inr h) ?_ (fun p3 H locs hp3 hw => ?_) | (refine th_callv (ps0 := [wdP cs h r g tf ta pf na ma wa cf ca ef ea xf xa]) (pr := []) (pcs := [wdP cs h r g tf ta pf na ma wa cf ca ef ea xf xa]) (As := [.ref sk]) (rest := []) (c_mp_take l D cs sk sn sb h r g tf ta na ma wa cf ca ef ea xf xa pf   (show 0 ≤ (pf 11).toInt from by first | exact g0 | omega) (show (pf 11).toInt < (tf 6).toInt from by first | exact g1 | omega) (show (tf 6).toInt ≤ 2049 from by first | exact g2 | omega) (show sn ≤ 100 from by first | exact g5 | omega) hlf htk) S hT hw (oX_call (P := (fun A U H => (oN A U H) ∧ (oP A g U H) ∧ (StLt A sk sn sb U H))) (pr := []) (oG_and oG_N (oG_and oG_P oG_QB)) hw hA ⟨hN, hP, ⟨_, hQ1⟩⟩) (px_recv hT hw 0 0 rfl rfl rfl) m12_57 m12_54 m12_56 ms_9_15 m1_21 q_Mpg_take ⟨Nat.le_of_ble_eq_true rfl, Nat.le_of_ble_eq_true rfl⟩ hl.1 rfl (Nat.le_of_ble_eq_true rfl) d_Mpg_closes_2 ⟨Nat.le_of_ble_eq_true rfl, Nat.le_of_ble_eq_true rfl⟩ hne hlk hA hAe (fun o t h => Or.inr h) ?_ (fun p3 H locs hp3 hw => ?_))
  · exact fun p1 H1 locs1 hp hw => by obtain ⟨pq1, pq2, pq3, pq4, rfl, hq1, hq2, hu_na, hu_ma, hu_wa, hq3⟩ := hp; exact ⟨_, ⟨pq1, pq2, pq3, pq4, rfl, hq1, hq2, hu_na, hu_ma, hu_wa, (Or.inl (Or.inl ⟨pq1, hq3, rfl, rfl⟩))⟩, hw⟩
  obtain ⟨pf2, rfl, e5, e6, e7, e8, e9, e10, e11, e12, e13⟩ := hp3
  have e5 : (pf2 11).toInt = (pf 11).toInt + 1 := e5
  have e6 : (pf2 11).toInt < (tf 6).toInt := e6
  have e7 : bp ta (pf 11) + 1 ≤ bp ta (pf2 11) := e7
  have e8 : (pf2 12).toInt = (pf 12).toInt := e8
  have e9 : (pf2 13).toInt = (pf 13).toInt := e9
  have e10 : (pf2 24).toInt = (pf 24).toInt := e10
  have e11 : (pf2 25).toInt = (pf 25).toInt := e11
  have e12 : (pf2 26).toInt = (pf 26).toInt := e12
  have e13 : R_mp_take sn sb ta pf pf2 0 := e13
  refine lv_aload_n S.x S.b d_Mpg_closes_5 rfl (lv_at hl 0 rfl) ?_
  refine lv_dup S.x S.b d_Mpg_closes_6 rfl ?_
  refine gP_12 (v := (pf2 12)) S hT hw 0 rfl rfl m9_236 d_Mpg_closes_7 ?_
  refine lv_iconst (v := 1) S.x S.b d_Mpg_closes_10 (by decide) ?_
  refine lv_isub S.x S.b d_Mpg_closes_11 ?_
  have lr14 := Int32.le_toInt (pf2 12)
  have ur14 := Int32.toInt_lt (pf2 12)
  refine lv_topi (fun z15 ez15 => ?_)
  have tz15 : z15.toInt = ((pf2 12).toInt - (1 : Int) + 2147483648) % 4294967296 - 2147483648 := by rw [ez15]; exact i_sub (pf2 12) 1
  have lz15 := Int32.le_toInt z15
  have uz15 := Int32.toInt_lt z15
  try replace tz15 : z15.toInt = (pf2 12).toInt - (1 : Int) := by omega
  refine pP_12 S hT hw 0 rfl m9_236 rfl rfl rfl d_Mpg_closes_12 (ps' := [wdP cs h r g tf ta (upd pf2 12 z15) na ma wa cf ca ef ea xf xa]) rfl (fun H locs hw => ?_)
  first | exact th_vret S hr hlk hAe hw (⟨(upd pf2 12 z15), rfl, (show (pf2 11).toInt = (pf 11).toInt + 1 from e5), (show (pf2 11).toInt < (tf 6).toInt from e6), (show bp ta (pf 11) + 1 ≤ bp ta (pf2 11) from e7), (show z15.toInt = (pf 12).toInt - 1 from (oz_7fdc63a1c9 e8 tz15)), (show (pf2 13).toInt = (pf 13).toInt from e9), (show (pf2 24).toInt = (pf 24).toInt from e10), (show (pf2 25).toInt = (pf 25).toInt from e11), (show (pf2 26).toInt = (pf 26).toInt from e12), (show R_mp_closes sn sb ta pf (upd pf2 12 z15) 0 from (Or.inl (Or.inr ⟨pf2, e13, z15, ez15, rfl, rfl⟩)))⟩) d_Mpg_closes_15 | (exact th_vret S hr hlk hAe hw (⟨(upd pf2 12 z15), rfl, (show (pf2 11).toInt = (pf 11).toInt + 1 from by first | exact e5 | omega), (show (pf2 11).toInt < (tf 6).toInt from by first | exact e6 | omega), (show bp ta (pf 11) + 1 ≤ bp ta (pf2 11) from by first | exact e7 | omega), (show z15.toInt = (pf 12).toInt - 1 from by first | exact oz_7fdc63a1c9 e8 tz15 | omega), (show (pf2 13).toInt = (pf 13).toInt from by first | exact e9 | omega), (show (pf2 24).toInt = (pf 24).toInt from by first | exact e10 | omega), (show (pf2 25).toInt = (pf 25).toInt from by first | exact e11 | omega), (show (pf2 26).toInt = (pf 26).toInt from by first | exact e12 | omega), (show R_mp_closes sn sb ta pf (upd pf2 12 z15) 0 from (Or.inl (Or.inr ⟨pf2, e13, z15, ez15, rfl, rfl⟩)))⟩) d_Mpg_closes_15)
abbrev b_Mpg_name : ByteArray := prog_16_method_26_code
def y_Mpg_name : MethodName := ⟨"HomeSystemModel$Program", "name", "()I"⟩
theorem d_Mpg_name_0 : decode b_Mpg_name 0 = .ok (.aload_n 0, 1) := by decide +kernel
theorem d_Mpg_name_1 : decode b_Mpg_name 1 = .ok (.aload_n 0, 1) := by decide +kernel
theorem d_Mpg_name_2 : decode b_Mpg_name 2 = .ok (.getfield 201, 3) := by decide +kernel
theorem d_Mpg_name_5 : decode b_Mpg_name 5 = .ok (.aload_n 0, 1) := by decide +kernel
theorem d_Mpg_name_6 : decode b_Mpg_name 6 = .ok (.getfield 360, 3) := by decide +kernel
theorem d_Mpg_name_9 : decode b_Mpg_name 9 = .ok (.baload, 1) := by decide +kernel
theorem d_Mpg_name_10 : decode b_Mpg_name 10 = .ok (.iconst 1, 1) := by decide +kernel
theorem d_Mpg_name_11 : decode b_Mpg_name 11 = .ok (.if_icmp .ne 7, 3) := by decide +kernel
theorem d_Mpg_name_14 : decode b_Mpg_name 14 = .ok (.iconst 1, 1) := by decide +kernel
theorem d_Mpg_name_15 : decode b_Mpg_name 15 = .ok (.goto 4, 3) := by decide +kernel
theorem d_Mpg_name_18 : decode b_Mpg_name 18 = .ok (.iconst 0, 1) := by decide +kernel
theorem d_Mpg_name_19 : decode b_Mpg_name 19 = .ok (.invokevirtual 373, 3) := by decide +kernel
theorem d_Mpg_name_22 : decode b_Mpg_name 22 = .ok (.aload_n 0, 1) := by decide +kernel
theorem d_Mpg_name_23 : decode b_Mpg_name 23 = .ok (.dup, 1) := by decide +kernel
theorem d_Mpg_name_24 : decode b_Mpg_name 24 = .ok (.getfield 360, 3) := by decide +kernel
theorem d_Mpg_name_27 : decode b_Mpg_name 27 = .ok (.iconst 1, 1) := by decide +kernel
theorem d_Mpg_name_28 : decode b_Mpg_name 28 = .ok (.iadd, 1) := by decide +kernel
theorem d_Mpg_name_29 : decode b_Mpg_name 29 = .ok (.putfield 360, 3) := by decide +kernel
theorem d_Mpg_name_32 : decode b_Mpg_name 32 = .ok (.aload_n 0, 1) := by decide +kernel
theorem d_Mpg_name_33 : decode b_Mpg_name 33 = .ok (.getfield 360, 3) := by decide +kernel
theorem d_Mpg_name_36 : decode b_Mpg_name 36 = .ok (.iconst 1, 1) := by decide +kernel
theorem d_Mpg_name_37 : decode b_Mpg_name 37 = .ok (.isub, 1) := by decide +kernel
theorem d_Mpg_name_38 : decode b_Mpg_name 38 = .ok (.ireturn, 1) := by decide +kernel
theorem q_Mpg_name : px_y y_Mpg_name 0 := by unfold px_y; decide +kernel
set_option maxHeartbeats 4000000 in
set_option maxRecDepth 100000 in
theorem c_mp_name (l : Launch) (D : va_G) (cs : Nat → ClassId) (h : Nat) (r : Nat → Nat) (g : Nat → Nat → Option Nat) (tf : Nat → Int32) (ta : Nat → Nat → Int32) (na : Nat → Nat → Int32) (ma : Nat → Nat → Int32) (wa : Nat → Nat → Int32) (cf : Nat → Int32) (ca : Nat → Nat → Int32) (ef : Nat → Int32) (ea : Nat → Nat → Int32) (xf : Nat → Int32) (xa : Nat → Nat → Int32) (pf : Nat → Int32)  (g0 : 0 ≤ (pf 11).toInt) (g1 : (pf 11).toInt < (tf 6).toInt) (g2 : (tf 6).toInt ≤ 2049) (hlf : l.flags = pinnedFlags ++ [noTraceFlag]) (htk : TkI tf ta) : ThI l y_Mpg_name b_Mpg_name 1 (.int) D cs 7 150 [.ref h] [wdP cs h r g tf ta pf na ma wa cf ca ef ea xf xa] (oX (fun A U H => (oN A U H) ∧ (oP A g U H)) [wdP cs h r g tf ta pf na ma wa cf ca ef ea xf xa]) "java/lang/IllegalArgumentException" (fun v ps => ∃ (pf' : Nat → Int32), (ps = [wdP cs h r g tf ta pf' na ma wa cf ca ef ea xf xa]) ∧ (v.toInt = (pf 11).toInt) ∧ (SoIs ta v 1) ∧ ((pf' 11).toInt = (pf 11).toInt + 1) ∧ ((pf' 11).toInt < (tf 6).toInt) ∧ (bp ta (pf 11) + 1 ≤ bp ta (pf' 11)) ∧ ((pf' 12).toInt = (pf 12).toInt) ∧ ((pf' 13).toInt = (pf 13).toInt) ∧ ((pf' 24).toInt = (pf 24).toInt) ∧ ((pf' 25).toInt = (pf 25).toInt) ∧ ((pf' 26).toInt = (pf 26).toInt) ∧ (R_mp_name ta pf pf' v 0)) (fun ps => ∃ (pf' : Nat → Int32) (na' : Nat → Nat → Int32) (ma' : Nat → Nat → Int32) (wa' : Nat → Nat → Int32), ps = [wdP cs h r g tf ta pf' na' ma' wa' cf ca ef ea xf xa] ∧ 0 ≤ (pf' 11).toInt ∧ (pf' 11).toInt + 1 ≤ (tf 6).toInt ∧ na' = na ∧ ma' = ma ∧ wa' = wa ∧ R_mp_name ta pf pf' 0 1) := by
  refine th_enter (by decide) (Nat.le_of_ble_eq_true rfl) ?_
  intro p e s m below meth c A ls hAe S hr hlk hnm hA hT hX hw hl hne hadm
  have hl : lv_has ls 1 [(0, .ref h)] := hl
  have cst0 : (0 : Int32).toInt = 0 := rfl
  have cst1 : (1 : Int32).toInt = 1 := rfl
  have hX : (fun A U H => (oN A U H) ∧ (oP A g U H)) A s s.heap := by rw [hAe]; exact hX
  obtain ⟨hN, hP⟩ := hX
  have hZ := hP.1
  have hF0 := hP.2.1
  refine lv_aload_n S.x S.b d_Mpg_name_0 rfl (lv_at hl 0 rfl) ?_
  refine lv_aload_n S.x S.b d_Mpg_name_1 rfl (lv_at hl 0 rfl) ?_
  refine gP_9 S hT hw 0 rfl m9_233 d_Mpg_name_2 ?_
  refine lv_aload_n S.x S.b d_Mpg_name_5 rfl (lv_at hl 0 rfl) ?_
  refine gP_11 (v := (pf 11)) S hT hw 0 rfl rfl m9_235 d_Mpg_name_6 ?_
  refine px_bald S hT hw 0 8 (n := 2060) (f := (ta 9)) rfl gp_9 (x := (pf 11)) (vp_in_iff.mpr (by first | exact oz_846323bf3a g0 g1 g2 | (constructor <;> omega))) d_Mpg_name_9 ?_
  refine lv_topi (fun z1 ez1 => ?_)
  have lz1 := Int32.le_toInt z1
  have uz1 := Int32.toInt_lt z1
  have rz1 := tk_s htk (x := (pf 11)) (by omega) (by omega) ez1
  refine lv_iconst (v := 1) S.x S.b d_Mpg_name_10 (by decide) ?_
  refine lv_icmp_ne (tgt := 18) S.x S.b d_Mpg_name_11 (by decide) (fun c2 => ?_) (fun c2 => ?_)
  · have nc2 : ¬ z1.toInt = (1 : Int) := mt (i_eq (x := z1) (y := 1)).mpr c2
    refine lv_iconst (v := 0) S.x S.b d_Mpg_name_18 (by decide) ?_
    refine th_callv (ps0 := [wdP cs h r g tf ta pf na ma wa cf ca ef ea xf xa]) (pr := [wdP cs h r g tf ta pf na ma wa cf ca ef ea xf xa]) (pcs := []) (As := [.int 0]) (rest := []) (c_mp_need l hlf D cs h 0) S hT hw (oX_call (P := (fun A U H => (oN A U H))) (pr := [wdP cs h r g tf ta pf na ma wa cf ca ef ea xf xa]) oG_N hw hA hN) (px_recv hT hw 0 0 rfl rfl rfl) m11_233 m11_230 m11_232 ms_9_0 m1_21 q_Mpg_need ⟨Nat.le_of_ble_eq_true rfl, Nat.le_of_ble_eq_true rfl⟩ hl.1 rfl (Nat.le_of_ble_eq_true rfl) d_Mpg_name_19 ⟨Nat.le_of_ble_eq_true rfl, Nat.le_of_ble_eq_true rfl⟩ hne hlk hA hAe (fun o t h => Or.inr h) ?_ (fun p4 H locs hp4 hw => ?_)
    · exact fun p1 H1 locs1 hp hw => by obtain ⟨rfl, hq0⟩ := hp; exact ⟨_, ⟨pf, na, ma, wa, rfl, by omega, by omega, rfl, rfl, rfl, (Or.inl ⟨z1, ez1, Or.inl ⟨nc2, Or.inl ⟨hq0, rfl, rfl, rfl⟩⟩⟩)⟩, hw.sub [0] rfl rfl⟩
    obtain ⟨rfl, hndp4⟩ := hp4
    have hndp4 : ¬ (0 : Int) = 0 := hndp4
    refine lv_aload_n S.x S.b d_Mpg_name_22 rfl (lv_at hl 0 rfl) ?_
    refine lv_dup S.x S.b d_Mpg_name_23 rfl ?_
    refine gP_11 (v := (pf 11)) S hT hw 0 rfl rfl m9_235 d_Mpg_name_24 ?_
    refine lv_iconst (v := 1) S.x S.b d_Mpg_name_27 (by decide) ?_
    refine lv_iadd S.x S.b d_Mpg_name_28 ?_
    have lr6 := Int32.le_toInt (pf 11)
    have ur6 := Int32.toInt_lt (pf 11)
    refine lv_topi (fun z7 ez7 => ?_)
    have tz7 : z7.toInt = ((pf 11).toInt + (1 : Int) + 2147483648) % 4294967296 - 2147483648 := by rw [ez7]; exact i_add (pf 11) 1
    have lz7 := Int32.le_toInt z7
    have uz7 := Int32.toInt_lt z7
    try replace tz7 : z7.toInt = (pf 11).toInt + (1 : Int) := by omega
    have hnx := tk_n htk (x := (pf 11)) (y := z7) (by omega) (by omega) (by omega)
    refine pP_11 S hT hw 0 rfl m9_235 rfl rfl rfl d_Mpg_name_29 (ps' := [wdP cs h r g tf ta (upd pf 11 z7) na ma wa cf ca ef ea xf xa]) rfl (fun H locs hw => ?_)
    refine lv_aload_n S.x S.b d_Mpg_name_32 rfl (lv_at hl 0 rfl) ?_
    refine gP_11 (v := z7) S hT hw 0 rfl rfl m9_235 d_Mpg_name_33 ?_
    refine lv_iconst (v := 1) S.x S.b d_Mpg_name_36 (by decide) ?_
    refine lv_isub S.x S.b d_Mpg_name_37 ?_
    refine lv_topi (fun z8 ez8 => ?_)
    have tz8 : z8.toInt = (z7.toInt - (1 : Int) + 2147483648) % 4294967296 - 2147483648 := by rw [ez8]; exact i_sub z7 1
    have lz8 := Int32.le_toInt z8
    have uz8 := Int32.toInt_lt z8
    try replace tz8 : z8.toInt = z7.toInt - (1 : Int) := by omega
    first | exact th_iret (v := z8) S hr rfl hlk hAe hw (⟨(upd pf 11 z7), rfl, (show z8.toInt = (pf 11).toInt from (oz_9a9b2fbcd1 tz7 tz8)), (show SoIs ta z8 1 from (by unfold SoIs; rw [show z8 = (pf 11) from i_eq.mpr (by omega)]; omega)), (show z7.toInt = (pf 11).toInt + 1 from (oz_037caa6b79 tz7)), (show z7.toInt < (tf 6).toInt from by omega), (show bp ta (pf 11) + 1 ≤ bp ta z7 from (oz_196269e214 hnx.1 hnx.2)), (show (pf 12).toInt = (pf 12).toInt from rfl), (show (pf 13).toInt = (pf 13).toInt from rfl), (show (pf 24).toInt = (pf 24).toInt from rfl), (show (pf 25).toInt = (pf 25).toInt from rfl), (show (pf 26).toInt = (pf 26).toInt from rfl), (show R_mp_name ta pf (upd pf 11 z7) z8 0 from (Or.inl ⟨z1, ez1, Or.inl ⟨nc2, Or.inr ⟨hndp4, z7, ez7, z8, ez8, rfl, rfl, rfl⟩⟩⟩))⟩) d_Mpg_name_38 | (exact th_iret (v := z8) S hr rfl hlk hAe hw (⟨(upd pf 11 z7), rfl, (show z8.toInt = (pf 11).toInt from by first | exact oz_9a9b2fbcd1 tz7 tz8 | omega), (show SoIs ta z8 1 from (by unfold SoIs; rw [show z8 = (pf 11) from i_eq.mpr (by omega)]; omega)), (show z7.toInt = (pf 11).toInt + 1 from by first | exact oz_037caa6b79 tz7 | omega), (show z7.toInt < (tf 6).toInt from by omega), (show bp ta (pf 11) + 1 ≤ bp ta z7 from by first | exact oz_196269e214 hnx.1 hnx.2 | omega), (show (pf 12).toInt = (pf 12).toInt from rfl), (show (pf 13).toInt = (pf 13).toInt from rfl), (show (pf 24).toInt = (pf 24).toInt from rfl), (show (pf 25).toInt = (pf 25).toInt from rfl), (show (pf 26).toInt = (pf 26).toInt from rfl), (show R_mp_name ta pf (upd pf 11 z7) z8 0 from (Or.inl ⟨z1, ez1, Or.inl ⟨nc2, Or.inr ⟨hndp4, z7, ez7, z8, ez8, rfl, rfl, rfl⟩⟩⟩))⟩) d_Mpg_name_38)
  · have nc2 : z1.toInt = (1 : Int) := (i_eq (x := z1) (y := 1)).mp c2
    refine lv_iconst (v := 1) S.x S.b d_Mpg_name_14 (by decide) ?_
    refine lv_goto (tgt := 19) S.x S.b d_Mpg_name_15 (by decide) ?_
    refine th_callv (ps0 := [wdP cs h r g tf ta pf na ma wa cf ca ef ea xf xa]) (pr := [wdP cs h r g tf ta pf na ma wa cf ca ef ea xf xa]) (pcs := []) (As := [.int 1]) (rest := []) (c_mp_need l hlf D cs h 1) S hT hw (oX_call (P := (fun A U H => (oN A U H))) (pr := [wdP cs h r g tf ta pf na ma wa cf ca ef ea xf xa]) oG_N hw hA hN) (px_recv hT hw 0 0 rfl rfl rfl) m11_233 m11_230 m11_232 ms_9_0 m1_21 q_Mpg_need ⟨Nat.le_of_ble_eq_true rfl, Nat.le_of_ble_eq_true rfl⟩ hl.1 rfl (Nat.le_of_ble_eq_true rfl) d_Mpg_name_19 ⟨Nat.le_of_ble_eq_true rfl, Nat.le_of_ble_eq_true rfl⟩ hne hlk hA hAe (fun o t h => Or.inr h) ?_ (fun p9 H locs hp9 hw => ?_)
    · exact fun p1 H1 locs1 hp hw => by obtain ⟨rfl, hq0⟩ := hp; exact ⟨_, ⟨pf, na, ma, wa, rfl, by omega, by omega, rfl, rfl, rfl, (Or.inl ⟨z1, ez1, Or.inr ⟨nc2, Or.inl ⟨hq0, rfl, rfl, rfl⟩⟩⟩)⟩, hw.sub [0] rfl rfl⟩
    obtain ⟨rfl, hndp9⟩ := hp9
    have hndp9 : ¬ (1 : Int) = 0 := hndp9
    refine lv_aload_n S.x S.b d_Mpg_name_22 rfl (lv_at hl 0 rfl) ?_
    refine lv_dup S.x S.b d_Mpg_name_23 rfl ?_
    refine gP_11 (v := (pf 11)) S hT hw 0 rfl rfl m9_235 d_Mpg_name_24 ?_
    refine lv_iconst (v := 1) S.x S.b d_Mpg_name_27 (by decide) ?_
    refine lv_iadd S.x S.b d_Mpg_name_28 ?_
    have lr11 := Int32.le_toInt (pf 11)
    have ur11 := Int32.toInt_lt (pf 11)
    refine lv_topi (fun z12 ez12 => ?_)
    have tz12 : z12.toInt = ((pf 11).toInt + (1 : Int) + 2147483648) % 4294967296 - 2147483648 := by rw [ez12]; exact i_add (pf 11) 1
    have lz12 := Int32.le_toInt z12
    have uz12 := Int32.toInt_lt z12
    try replace tz12 : z12.toInt = (pf 11).toInt + (1 : Int) := by omega
    have hnx := tk_n htk (x := (pf 11)) (y := z12) (by omega) (by omega) (by omega)
    refine pP_11 S hT hw 0 rfl m9_235 rfl rfl rfl d_Mpg_name_29 (ps' := [wdP cs h r g tf ta (upd pf 11 z12) na ma wa cf ca ef ea xf xa]) rfl (fun H locs hw => ?_)
    refine lv_aload_n S.x S.b d_Mpg_name_32 rfl (lv_at hl 0 rfl) ?_
    refine gP_11 (v := z12) S hT hw 0 rfl rfl m9_235 d_Mpg_name_33 ?_
    refine lv_iconst (v := 1) S.x S.b d_Mpg_name_36 (by decide) ?_
    refine lv_isub S.x S.b d_Mpg_name_37 ?_
    refine lv_topi (fun z13 ez13 => ?_)
    have tz13 : z13.toInt = (z12.toInt - (1 : Int) + 2147483648) % 4294967296 - 2147483648 := by rw [ez13]; exact i_sub z12 1
    have lz13 := Int32.le_toInt z13
    have uz13 := Int32.toInt_lt z13
    try replace tz13 : z13.toInt = z12.toInt - (1 : Int) := by omega
    first | exact th_iret (v := z13) S hr rfl hlk hAe hw (⟨(upd pf 11 z12), rfl, (show z13.toInt = (pf 11).toInt from (oz_9a9b2fbcd1 tz12 tz13)), (show SoIs ta z13 1 from (by unfold SoIs; rw [show z13 = (pf 11) from i_eq.mpr (by omega)]; omega)), (show z12.toInt = (pf 11).toInt + 1 from (oz_037caa6b79 tz12)), (show z12.toInt < (tf 6).toInt from by omega), (show bp ta (pf 11) + 1 ≤ bp ta z12 from (oz_196269e214 hnx.1 hnx.2)), (show (pf 12).toInt = (pf 12).toInt from rfl), (show (pf 13).toInt = (pf 13).toInt from rfl), (show (pf 24).toInt = (pf 24).toInt from rfl), (show (pf 25).toInt = (pf 25).toInt from rfl), (show (pf 26).toInt = (pf 26).toInt from rfl), (show R_mp_name ta pf (upd pf 11 z12) z13 0 from (Or.inl ⟨z1, ez1, Or.inr ⟨nc2, Or.inr ⟨hndp9, z12, ez12, z13, ez13, rfl, rfl, rfl⟩⟩⟩))⟩) d_Mpg_name_38 | (exact th_iret (v := z13) S hr rfl hlk hAe hw (⟨(upd pf 11 z12), rfl, (show z13.toInt = (pf 11).toInt from by first | exact oz_9a9b2fbcd1 tz12 tz13 | omega), (show SoIs ta z13 1 from (by unfold SoIs; rw [show z13 = (pf 11) from i_eq.mpr (by omega)]; omega)), (show z12.toInt = (pf 11).toInt + 1 from by first | exact oz_037caa6b79 tz12 | omega), (show z12.toInt < (tf 6).toInt from by omega), (show bp ta (pf 11) + 1 ≤ bp ta z12 from by first | exact oz_196269e214 hnx.1 hnx.2 | omega), (show (pf 12).toInt = (pf 12).toInt from rfl), (show (pf 13).toInt = (pf 13).toInt from rfl), (show (pf 24).toInt = (pf 24).toInt from rfl), (show (pf 25).toInt = (pf 25).toInt from rfl), (show (pf 26).toInt = (pf 26).toInt from rfl), (show R_mp_name ta pf (upd pf 11 z12) z13 0 from (Or.inl ⟨z1, ez1, Or.inr ⟨nc2, Or.inr ⟨hndp9, z12, ez12, z13, ez13, rfl, rfl, rfl⟩⟩⟩))⟩) d_Mpg_name_38)
abbrev b_Mpg_stands2 : ByteArray := prog_16_method_34_code
def y_Mpg_stands2 : MethodName := ⟨"HomeSystemModel$Program", "stands", "(I)V"⟩
theorem d_Mpg_stands2_0 : decode b_Mpg_stands2 0 = .ok (.aload_n 0, 1) := by decide +kernel
theorem d_Mpg_stands2_1 : decode b_Mpg_stands2 1 = .ok (.aload_n 0, 1) := by decide +kernel
theorem d_Mpg_stands2_2 : decode b_Mpg_stands2 2 = .ok (.getfield 380, 3) := by decide +kernel
theorem d_Mpg_stands2_5 : decode b_Mpg_stands2 5 = .ok (.aload_n 0, 1) := by decide +kernel
theorem d_Mpg_stands2_6 : decode b_Mpg_stands2 6 = .ok (.getfield 234, 3) := by decide +kernel
theorem d_Mpg_stands2_9 : decode b_Mpg_stands2 9 = .ok (.iload_n 1, 1) := by decide +kernel
theorem d_Mpg_stands2_10 : decode b_Mpg_stands2 10 = .ok (.iaload, 1) := by decide +kernel
theorem d_Mpg_stands2_11 : decode b_Mpg_stands2 11 = .ok (.iadd, 1) := by decide +kernel
theorem d_Mpg_stands2_12 : decode b_Mpg_stands2 12 = .ok (.bipush 60, 2) := by decide +kernel
theorem d_Mpg_stands2_14 : decode b_Mpg_stands2 14 = .ok (.if_icmp .ge 7, 3) := by decide +kernel
theorem d_Mpg_stands2_17 : decode b_Mpg_stands2 17 = .ok (.iconst 1, 1) := by decide +kernel
theorem d_Mpg_stands2_18 : decode b_Mpg_stands2 18 = .ok (.goto 4, 3) := by decide +kernel
theorem d_Mpg_stands2_21 : decode b_Mpg_stands2 21 = .ok (.iconst 0, 1) := by decide +kernel
theorem d_Mpg_stands2_22 : decode b_Mpg_stands2 22 = .ok (.invokevirtual 373, 3) := by decide +kernel
theorem d_Mpg_stands2_25 : decode b_Mpg_stands2 25 = .ok (.return_, 1) := by decide +kernel
theorem q_Mpg_stands2 : px_y y_Mpg_stands2 1 := by unfold px_y; decide +kernel
set_option maxHeartbeats 4000000 in
set_option maxRecDepth 100000 in
theorem c_mp_stands (l : Launch) (D : va_G) (cs : Nat → ClassId) (h : Nat) (r : Nat → Nat) (g : Nat → Nat → Option Nat) (tf : Nat → Int32) (ta : Nat → Nat → Int32) (pf : Nat → Int32) (na : Nat → Nat → Int32) (ma : Nat → Nat → Int32) (wa : Nat → Nat → Int32) (cf : Nat → Int32) (ca : Nat → Nat → Int32) (ef : Nat → Int32) (ea : Nat → Nat → Int32) (xf : Nat → Int32) (xa : Nat → Nat → Int32) (p0 : Int32)  (g0 : 0 ≤ (pf 11).toInt) (g1 : (pf 11).toInt < (tf 6).toInt) (g2 : 0 ≤ p0.toInt) (g3 : p0.toInt < 2100) (g4 : 0 ≤ dp na p0) (g5 : dp na p0 ≤ 1000) (g6 : 0 ≤ (pf 12).toInt) (g7 : (pf 12).toInt ≤ 60) (hlf : l.flags = pinnedFlags ++ [noTraceFlag]) (htk : TkI tf ta) : ThV l y_Mpg_stands2 b_Mpg_stands2 2 D cs 7 150 [.ref h, .int p0] [wdP cs h r g tf ta pf na ma wa cf ca ef ea xf xa] (oX (fun A U H => (oN A U H) ∧ (oP A g U H)) [wdP cs h r g tf ta pf na ma wa cf ca ef ea xf xa]) "java/lang/IllegalArgumentException" (fun ps => (ps = [wdP cs h r g tf ta pf na ma wa cf ca ef ea xf xa]) ∧ ((pf 12).toInt + dp na p0 < 60) ∧ (R_mp_stands pf na p0 0)) (fun ps => ∃ (pf' : Nat → Int32) (na' : Nat → Nat → Int32) (ma' : Nat → Nat → Int32) (wa' : Nat → Nat → Int32), ps = [wdP cs h r g tf ta pf' na' ma' wa' cf ca ef ea xf xa] ∧ 0 ≤ (pf' 11).toInt ∧ (pf' 11).toInt + 1 ≤ (tf 6).toInt ∧ pf' = pf ∧ na' = na ∧ ma' = ma ∧ wa' = wa ∧ R_mp_stands pf na p0 1) := by
  refine th_enter (by decide) (Nat.le_of_ble_eq_true rfl) ?_
  intro p e s m below meth c A ls hAe S hr hlk hnm hA hT hX hw hl hne hadm
  have hl : lv_has ls 2 [(0, .ref h), (1, .int p0)] := hl
  have lp0 := Int32.le_toInt p0
  have up0 := Int32.toInt_lt p0
  have cst0 : (0 : Int32).toInt = 0 := rfl
  have cst1 : (1 : Int32).toInt = 1 := rfl
  have cst60 : (60 : Int32).toInt = 60 := rfl
  have hX : (fun A U H => (oN A U H) ∧ (oP A g U H)) A s s.heap := by rw [hAe]; exact hX
  obtain ⟨hN, hP⟩ := hX
  have hZ := hP.1
  have hF0 := hP.2.1
  refine lv_aload_n S.x S.b d_Mpg_stands2_0 rfl (lv_at hl 0 rfl) ?_
  refine lv_aload_n S.x S.b d_Mpg_stands2_1 rfl (lv_at hl 0 rfl) ?_
  refine gP_12 (v := (pf 12)) S hT hw 0 rfl rfl m9_236 d_Mpg_stands2_2 ?_
  refine lv_aload_n S.x S.b d_Mpg_stands2_5 rfl (lv_at hl 0 rfl) ?_
  refine gP_23 S hT hw 0 rfl m10_11 d_Mpg_stands2_6 ?_
  refine lv_iload_n S.x S.b d_Mpg_stands2_9 rfl (lv_at hl 1 rfl) ?_
  refine px_iald S hT hw 0 19 (n := 2100) (f := (na 23)) rfl gp_23 (x := p0) (vp_in_iff.mpr (by first | exact oz_bba493d71d g2 g3 | (constructor <;> omega))) d_Mpg_stands2_10 ?_
  refine lv_topi (fun z1 ez1 => ?_)
  have lz1 := Int32.le_toInt z1
  have uz1 := Int32.toInt_lt z1
  have rz1 : z1.toInt = dp na p0 := by rw [ez1]; rfl
  refine lv_iadd S.x S.b d_Mpg_stands2_11 ?_
  have lr2 := Int32.le_toInt (pf 12)
  have ur2 := Int32.toInt_lt (pf 12)
  refine lv_topi (fun z3 ez3 => ?_)
  have tz3 : z3.toInt = ((pf 12).toInt + z1.toInt + 2147483648) % 4294967296 - 2147483648 := by rw [ez3]; exact i_add (pf 12) z1
  have lz3 := Int32.le_toInt z3
  have uz3 := Int32.toInt_lt z3
  try replace tz3 : z3.toInt = (pf 12).toInt + z1.toInt := by omega
  refine lv_bipush (v := 60) S.x S.b d_Mpg_stands2_12 (by decide) ?_
  refine lv_icmp_ge (tgt := 21) S.x S.b d_Mpg_stands2_14 (by decide) (fun c4 => ?_) (fun c4 => ?_)
  · have nc4 : (60 : Int) ≤ z3.toInt := (i_le (x := 60) (y := z3)).mp c4
    refine lv_iconst (v := 0) S.x S.b d_Mpg_stands2_21 (by decide) ?_
    refine th_callv (ps0 := [wdP cs h r g tf ta pf na ma wa cf ca ef ea xf xa]) (pr := [wdP cs h r g tf ta pf na ma wa cf ca ef ea xf xa]) (pcs := []) (As := [.int 0]) (rest := []) (c_mp_need l hlf D cs h 0) S hT hw (oX_call (P := (fun A U H => (oN A U H))) (pr := [wdP cs h r g tf ta pf na ma wa cf ca ef ea xf xa]) oG_N hw hA hN) (px_recv hT hw 0 0 rfl rfl rfl) m11_233 m11_230 m11_232 ms_9_0 m1_21 q_Mpg_need ⟨Nat.le_of_ble_eq_true rfl, Nat.le_of_ble_eq_true rfl⟩ hl.1 rfl (Nat.le_of_ble_eq_true rfl) d_Mpg_stands2_22 ⟨Nat.le_of_ble_eq_true rfl, Nat.le_of_ble_eq_true rfl⟩ hne hlk hA hAe (fun o t h => Or.inr h) ?_ (fun p6 H locs hp6 hw => ?_)
    · exact fun p1 H1 locs1 hp hw => by obtain ⟨rfl, hq0⟩ := hp; exact ⟨_, ⟨pf, na, ma, wa, rfl, by omega, by omega, rfl, rfl, rfl, rfl, (Or.inl ⟨z1, ez1, z3, ez3, Or.inl ⟨nc4, Or.inl ⟨hq0, rfl⟩⟩⟩)⟩, hw.sub [0] rfl rfl⟩
    obtain ⟨rfl, hndp6⟩ := hp6
    have hndp6 : ¬ (0 : Int) = 0 := hndp6
    exact th_vret S hr hlk hAe hw (⟨rfl, (show (pf 12).toInt + dp na p0 < 60 from by omega), (show R_mp_stands pf na p0 0 from (Or.inl ⟨z1, ez1, z3, ez3, Or.inl ⟨nc4, Or.inr ⟨hndp6, rfl⟩⟩⟩))⟩) d_Mpg_stands2_25
  · have nc4 : ¬ (60 : Int) ≤ z3.toInt := mt (i_le (x := 60) (y := z3)).mpr c4
    refine lv_iconst (v := 1) S.x S.b d_Mpg_stands2_17 (by decide) ?_
    refine lv_goto (tgt := 22) S.x S.b d_Mpg_stands2_18 (by decide) ?_
    refine th_callv (ps0 := [wdP cs h r g tf ta pf na ma wa cf ca ef ea xf xa]) (pr := [wdP cs h r g tf ta pf na ma wa cf ca ef ea xf xa]) (pcs := []) (As := [.int 1]) (rest := []) (c_mp_need l hlf D cs h 1) S hT hw (oX_call (P := (fun A U H => (oN A U H))) (pr := [wdP cs h r g tf ta pf na ma wa cf ca ef ea xf xa]) oG_N hw hA hN) (px_recv hT hw 0 0 rfl rfl rfl) m11_233 m11_230 m11_232 ms_9_0 m1_21 q_Mpg_need ⟨Nat.le_of_ble_eq_true rfl, Nat.le_of_ble_eq_true rfl⟩ hl.1 rfl (Nat.le_of_ble_eq_true rfl) d_Mpg_stands2_22 ⟨Nat.le_of_ble_eq_true rfl, Nat.le_of_ble_eq_true rfl⟩ hne hlk hA hAe (fun o t h => Or.inr h) ?_ (fun p8 H locs hp8 hw => ?_)
    · exact fun p1 H1 locs1 hp hw => by obtain ⟨rfl, hq0⟩ := hp; exact ⟨_, ⟨pf, na, ma, wa, rfl, by omega, by omega, rfl, rfl, rfl, rfl, (Or.inl ⟨z1, ez1, z3, ez3, Or.inr ⟨nc4, Or.inl ⟨hq0, rfl⟩⟩⟩)⟩, hw.sub [0] rfl rfl⟩
    obtain ⟨rfl, hndp8⟩ := hp8
    have hndp8 : ¬ (1 : Int) = 0 := hndp8
    first | exact th_vret S hr hlk hAe hw (⟨rfl, (show (pf 12).toInt + dp na p0 < 60 from (oz_fe4d3cd25c rz1 tz3 nc4)), (show R_mp_stands pf na p0 0 from (Or.inl ⟨z1, ez1, z3, ez3, Or.inr ⟨nc4, Or.inr ⟨hndp8, rfl⟩⟩⟩))⟩) d_Mpg_stands2_25 | (exact th_vret S hr hlk hAe hw (⟨rfl, (show (pf 12).toInt + dp na p0 < 60 from by first | exact oz_fe4d3cd25c rz1 tz3 nc4 | omega), (show R_mp_stands pf na p0 0 from (Or.inl ⟨z1, ez1, z3, ez3, Or.inr ⟨nc4, Or.inr ⟨hndp8, rfl⟩⟩⟩))⟩) d_Mpg_stands2_25)
