theorem oz_8308d4364a {a0 : Int} (h0 : 0 ≤ a0) (h1 : a0 < 1100) : 0 ≤ a0 ∧ a0 < ((1100 : Nat) : Int) := by omega
theorem oz_24cea6123d {a0 a1 : Int} (h0 : a0 = a1) (h1 : 0 ≤ a1) (h2 : a1 ≤ 36990) : 0 ≤ a0 ∧ a0 < ((37000 : Nat) : Int) := by omega
theorem oz_10778e8c7a {a0 a1 a2 : Int} (h0 : a0 = a1 + (1 : Int)) (h1 : a1 = a2) (h2 : 0 ≤ a2) (h3 : a2 ≤ 36990) : 0 ≤ a0 ∧ a0 < ((37000 : Nat) : Int) := by omega
theorem m10_221 : Cond.fieldLink "HomeSystemModel$Process" 52 "HomeSystemModel$Process" "program" "LHomeSystemModel$Program;" ∈ AL := AL_10 (List.mem_of_getElem? (i := 221) rfl) rfl
theorem m10_43n : Cond.fieldLinkNest "HomeSystemModel$Process" 109 "HomeSystemModel$Program" "symbolOfText" "[Z" "HomeSystemModel" ∈ tables_1 := by unfold tables_1; exact List.mem_append_right _ (List.mem_append_right _ (List.mem_append_right _ (List.mem_append_right _ (List.mem_append_right _ (List.mem_append_right _ (List.mem_append_right _ (List.mem_append_right _ (List.mem_append_right _ (List.mem_append_left _ (List.mem_of_getElem? (i := 43) rfl))))))))))
theorem m11_4 : Cond.fieldLink "HomeSystemModel$Process" 80 "HomeSystemModel$Process" "base" "I" ∈ AL := AL_11 (List.mem_of_getElem? (i := 4) rfl) rfl
theorem m10_45n : Cond.fieldLinkNest "HomeSystemModel$Process" 113 "HomeSystemModel$Program" "symbolAt" "[I" "HomeSystemModel" ∈ tables_1 := by unfold tables_1; exact List.mem_append_right _ (List.mem_append_right _ (List.mem_append_right _ (List.mem_append_right _ (List.mem_append_right _ (List.mem_append_right _ (List.mem_append_right _ (List.mem_append_right _ (List.mem_append_right _ (List.mem_append_left _ (List.mem_of_getElem? (i := 45) rfl))))))))))
theorem m10_41n : Cond.fieldLinkNest "HomeSystemModel$Process" 116 "HomeSystemModel$Program" "symbolSort" "[B" "HomeSystemModel" ∈ tables_1 := by unfold tables_1; exact List.mem_append_right _ (List.mem_append_right _ (List.mem_append_right _ (List.mem_append_right _ (List.mem_append_right _ (List.mem_append_right _ (List.mem_append_right _ (List.mem_append_right _ (List.mem_append_right _ (List.mem_append_left _ (List.mem_of_getElem? (i := 41) rfl))))))))))
theorem m14_136 : Cond.methodLink "HomeSystemModel$Process" 120 ⟨"HomeSystemModel$Process", "isGiven", "(I)Z"⟩ ∈ AL := AL_14 (List.mem_of_getElem? (i := 136) rfl) rfl
theorem m14_139 : Cond.code ⟨"HomeSystemModel$Process", "isGiven", "(I)Z"⟩ prog_15_method_10_code 2 (Option.some FieldType.boolean) ∈ AL := AL_14 (List.mem_of_getElem? (i := 139) rfl) rfl
theorem m1_22 : Cond.initialized "HomeSystemModel$Process" ∈ AL := AL_1 (List.mem_of_getElem? (i := 22) rfl) rfl
theorem ms_16_15 : Cond.selects "HomeSystemModel$Process" ⟨"HomeSystemModel$Process", "isGiven", "(I)Z"⟩ ⟨"HomeSystemModel$Process", "isGiven", "(I)Z"⟩ ∈ AL := AL_p (q := (⟨"HomeSystemModel$Process", "isGiven", "(I)Z"⟩, 26)) (by unfold lw_privs; exact List.mem_append_right _ (List.mem_append_right _ (List.mem_append_right _ (List.mem_append_right _ (List.mem_append_right _ (List.mem_append_right _ (List.mem_append_right _ (List.mem_append_right _ (List.mem_append_right _ (List.mem_append_right _ (List.mem_append_right _ (List.mem_append_right _ (List.mem_append_right _ (List.mem_append_right _ (List.mem_append_right _ (List.mem_append_left _ (List.mem_of_getElem? (i := 15) rfl)))))))))))))))))
theorem m14_138 : Cond.instanceMethod ⟨"HomeSystemModel$Process", "isGiven", "(I)Z"⟩ ∈ AL := AL_14 (List.mem_of_getElem? (i := 138) rfl) rfl
theorem m14_116 : Cond.methodLink "HomeSystemModel$Process" 124 ⟨"HomeSystemModel$Process", "cellOf", "(I)I"⟩ ∈ AL := AL_14 (List.mem_of_getElem? (i := 116) rfl) rfl
theorem m14_119 : Cond.code ⟨"HomeSystemModel$Process", "cellOf", "(I)I"⟩ prog_15_method_9_code 2 (Option.some FieldType.int) ∈ AL := AL_14 (List.mem_of_getElem? (i := 119) rfl) rfl
theorem ms_16_11 : Cond.selects "HomeSystemModel$Process" ⟨"HomeSystemModel$Process", "cellOf", "(I)I"⟩ ⟨"HomeSystemModel$Process", "cellOf", "(I)I"⟩ ∈ AL := AL_p (q := (⟨"HomeSystemModel$Process", "cellOf", "(I)I"⟩, 26)) (by unfold lw_privs; exact List.mem_append_right _ (List.mem_append_right _ (List.mem_append_right _ (List.mem_append_right _ (List.mem_append_right _ (List.mem_append_right _ (List.mem_append_right _ (List.mem_append_right _ (List.mem_append_right _ (List.mem_append_right _ (List.mem_append_right _ (List.mem_append_right _ (List.mem_append_right _ (List.mem_append_right _ (List.mem_append_right _ (List.mem_append_left _ (List.mem_of_getElem? (i := 11) rfl)))))))))))))))))
theorem m14_118 : Cond.instanceMethod ⟨"HomeSystemModel$Process", "cellOf", "(I)I"⟩ ∈ AL := AL_14 (List.mem_of_getElem? (i := 118) rfl) rfl
theorem m10_47n : Cond.fieldLinkNest "HomeSystemModel$Process" 128 "HomeSystemModel$Program" "symbolSize" "[I" "HomeSystemModel" ∈ tables_1 := by unfold tables_1; exact List.mem_append_right _ (List.mem_append_right _ (List.mem_append_right _ (List.mem_append_right _ (List.mem_append_right _ (List.mem_append_right _ (List.mem_append_right _ (List.mem_append_right _ (List.mem_append_right _ (List.mem_append_left _ (List.mem_of_getElem? (i := 47) rfl))))))))))
theorem m13_174 : Cond.methodLink "HomeSystemModel$Process" 134 ⟨"HomeSystemModel$Process", "end", "(II)V"⟩ ∈ AL := AL_13 (List.mem_of_getElem? (i := 174) rfl) rfl
theorem m13_177 : Cond.code ⟨"HomeSystemModel$Process", "end", "(II)V"⟩ prog_15_method_8_code 3 (Option.none : Option Jvm.ClassFile.FieldType) ∈ AL := AL_13 (List.mem_of_getElem? (i := 177) rfl) rfl
theorem m13_176 : Cond.selects "HomeSystemModel$Process" ⟨"HomeSystemModel$Process", "end", "(II)V"⟩ ⟨"HomeSystemModel$Process", "end", "(II)V"⟩ ∈ AL := AL_13 (List.mem_of_getElem? (i := 176) rfl) rfl
theorem m13_175 : Cond.instanceMethod ⟨"HomeSystemModel$Process", "end", "(II)V"⟩ ∈ AL := AL_13 (List.mem_of_getElem? (i := 175) rfl) rfl
theorem m14_132 : Cond.methodLink "HomeSystemModel$Process" 131 ⟨"HomeSystemModel$Process", "arraySize", "(I)I"⟩ ∈ AL := AL_14 (List.mem_of_getElem? (i := 132) rfl) rfl
theorem m14_135 : Cond.code ⟨"HomeSystemModel$Process", "arraySize", "(I)I"⟩ prog_15_method_12_code 2 (Option.some FieldType.int) ∈ AL := AL_14 (List.mem_of_getElem? (i := 135) rfl) rfl
theorem ms_16_14 : Cond.selects "HomeSystemModel$Process" ⟨"HomeSystemModel$Process", "arraySize", "(I)I"⟩ ⟨"HomeSystemModel$Process", "arraySize", "(I)I"⟩ ∈ AL := AL_p (q := (⟨"HomeSystemModel$Process", "arraySize", "(I)I"⟩, 26)) (by unfold lw_privs; exact List.mem_append_right _ (List.mem_append_right _ (List.mem_append_right _ (List.mem_append_right _ (List.mem_append_right _ (List.mem_append_right _ (List.mem_append_right _ (List.mem_append_right _ (List.mem_append_right _ (List.mem_append_right _ (List.mem_append_right _ (List.mem_append_right _ (List.mem_append_right _ (List.mem_append_right _ (List.mem_append_right _ (List.mem_append_left _ (List.mem_of_getElem? (i := 14) rfl)))))))))))))))))
theorem m14_134 : Cond.instanceMethod ⟨"HomeSystemModel$Process", "arraySize", "(I)I"⟩ ∈ AL := AL_14 (List.mem_of_getElem? (i := 134) rfl) rfl
theorem m14_140 : Cond.methodLink "HomeSystemModel$Process" 138 ⟨"HomeSystemModel$Process", "arrayAt", "(I)I"⟩ ∈ AL := AL_14 (List.mem_of_getElem? (i := 140) rfl) rfl
theorem m14_143 : Cond.code ⟨"HomeSystemModel$Process", "arrayAt", "(I)I"⟩ prog_15_method_11_code 2 (Option.some FieldType.int) ∈ AL := AL_14 (List.mem_of_getElem? (i := 143) rfl) rfl
theorem ms_17_0 : Cond.selects "HomeSystemModel$Process" ⟨"HomeSystemModel$Process", "arrayAt", "(I)I"⟩ ⟨"HomeSystemModel$Process", "arrayAt", "(I)I"⟩ ∈ AL := AL_p (q := (⟨"HomeSystemModel$Process", "arrayAt", "(I)I"⟩, 26)) (by unfold lw_privs; exact List.mem_append_right _ (List.mem_append_right _ (List.mem_append_right _ (List.mem_append_right _ (List.mem_append_right _ (List.mem_append_right _ (List.mem_append_right _ (List.mem_append_right _ (List.mem_append_right _ (List.mem_append_right _ (List.mem_append_right _ (List.mem_append_right _ (List.mem_append_right _ (List.mem_append_right _ (List.mem_append_right _ (List.mem_append_right _ (List.mem_of_getElem? (i := 0) rfl)))))))))))))))))
theorem m14_142 : Cond.instanceMethod ⟨"HomeSystemModel$Process", "arrayAt", "(I)I"⟩ ∈ AL := AL_14 (List.mem_of_getElem? (i := 142) rfl) rfl
theorem m10_229 : Cond.fieldLink "HomeSystemModel$Process" 88 "HomeSystemModel$Process" "work" "I" ∈ AL := AL_10 (List.mem_of_getElem? (i := 229) rfl) rfl
abbrev b_Mpr_cellOf : ByteArray := prog_15_method_9_code
def y_Mpr_cellOf : MethodName := ⟨"HomeSystemModel$Process", "cellOf", "(I)I"⟩
theorem d_Mpr_cellOf_0 : decode b_Mpr_cellOf 0 = .ok (.aload_n 0, 1) := by decide +kernel
theorem d_Mpr_cellOf_1 : decode b_Mpr_cellOf 1 = .ok (.getfield 52, 3) := by decide +kernel
theorem d_Mpr_cellOf_4 : decode b_Mpr_cellOf 4 = .ok (.getfield 109, 3) := by decide +kernel
theorem d_Mpr_cellOf_7 : decode b_Mpr_cellOf 7 = .ok (.iload_n 1, 1) := by decide +kernel
theorem d_Mpr_cellOf_8 : decode b_Mpr_cellOf 8 = .ok (.baload, 1) := by decide +kernel
theorem d_Mpr_cellOf_9 : decode b_Mpr_cellOf 9 = .ok (.ifCond .eq 15, 3) := by decide +kernel
theorem d_Mpr_cellOf_12 : decode b_Mpr_cellOf 12 = .ok (.aload_n 0, 1) := by decide +kernel
theorem d_Mpr_cellOf_13 : decode b_Mpr_cellOf 13 = .ok (.getfield 52, 3) := by decide +kernel
theorem d_Mpr_cellOf_16 : decode b_Mpr_cellOf 16 = .ok (.getfield 113, 3) := by decide +kernel
theorem d_Mpr_cellOf_19 : decode b_Mpr_cellOf 19 = .ok (.iload_n 1, 1) := by decide +kernel
theorem d_Mpr_cellOf_20 : decode b_Mpr_cellOf 20 = .ok (.iaload, 1) := by decide +kernel
theorem d_Mpr_cellOf_21 : decode b_Mpr_cellOf 21 = .ok (.goto 17, 3) := by decide +kernel
theorem d_Mpr_cellOf_24 : decode b_Mpr_cellOf 24 = .ok (.aload_n 0, 1) := by decide +kernel
theorem d_Mpr_cellOf_25 : decode b_Mpr_cellOf 25 = .ok (.getfield 80, 3) := by decide +kernel
theorem d_Mpr_cellOf_28 : decode b_Mpr_cellOf 28 = .ok (.aload_n 0, 1) := by decide +kernel
theorem d_Mpr_cellOf_29 : decode b_Mpr_cellOf 29 = .ok (.getfield 52, 3) := by decide +kernel
theorem d_Mpr_cellOf_32 : decode b_Mpr_cellOf 32 = .ok (.getfield 113, 3) := by decide +kernel
theorem d_Mpr_cellOf_35 : decode b_Mpr_cellOf 35 = .ok (.iload_n 1, 1) := by decide +kernel
theorem d_Mpr_cellOf_36 : decode b_Mpr_cellOf 36 = .ok (.iaload, 1) := by decide +kernel
theorem d_Mpr_cellOf_37 : decode b_Mpr_cellOf 37 = .ok (.iadd, 1) := by decide +kernel
theorem d_Mpr_cellOf_38 : decode b_Mpr_cellOf 38 = .ok (.ireturn, 1) := by decide +kernel
theorem q_Mpr_cellOf : px_y y_Mpr_cellOf 1 := by unfold px_y; decide +kernel
set_option maxHeartbeats 4000000 in
set_option maxRecDepth 100000 in
theorem c_mr_cellOf (l : Launch) (D : va_G) (cs : Nat → ClassId) (nf : Int) (q : Nat) (qr : Nat → Nat) (qg : Nat → Nat → Option Nat) (qf : Nat → Int32) (qa : Nat → Nat → Int32) (h : Nat) (r : Nat → Nat) (g : Nat → Nat → Option Nat) (tf : Nat → Int32) (ta : Nat → Nat → Int32) (pf : Nat → Int32) (na : Nat → Nat → Int32) (ma : Nat → Nat → Int32) (wa : Nat → Nat → Int32) (cf : Nat → Int32) (ca : Nat → Nat → Int32) (ef : Nat → Int32) (ea : Nat → Nat → Int32) (xf : Nat → Int32) (xa : Nat → Nat → Int32) (p0 : Int32)  (g0 : 0 ≤ p0.toInt) (g1 : p0.toInt < 1100) (g2 : 0 ≤ clo ca (qf 12).toInt p0) (g3 : clo ca (qf 12).toInt p0 ≤ 36990) : MetI l y_Mpr_cellOf b_Mpr_cellOf 2 (.int) D cs 0 0 (0) (0) [.ref q, .int p0] [wd_Mpr cs q qr (fun k => if k = 0 then (some h) else none) qf qa qg, wdP cs h r g tf ta pf na ma wa cf ca ef ea xf xa] (oX (fun A U H => (oP A g U H)) [wd_Mpr cs q qr (fun k => if k = 0 then (some h) else none) qf qa qg, wdP cs h r g tf ta pf na ma wa cf ca ef ea xf xa]) (fun v ps => (ps = [wd_Mpr cs q qr (fun k => if k = 0 then (some h) else none) qf qa qg, wdP cs h r g tf ta pf na ma wa cf ca ef ea xf xa]) ∧ (v.toInt = clo ca (qf 12).toInt p0)) := by
  refine px_enter (by decide) (Nat.le_of_ble_eq_true rfl) ?_
  intro p e s m below meth c A ls hAe S hr hlk hnm hA hT hX hw hl
  replace hl : lv_has ls 2 [(0, .ref q), (1, .int p0)] := hl
  have lp0 := Int32.le_toInt p0
  have up0 := Int32.toInt_lt p0
  have hX : (fun A U H => (oP A g U H)) A s s.heap := by rw [hAe]; exact hX
  have hP := hX
  have hZ := hP.1
  have hF0 := hP.2.1
  refine lv_aload_n S.x S.b d_Mpr_cellOf_0 rfl (lv_at hl 0 rfl) ?_
  refine px_get S k_Mpr hT hw 0 0 0 (v := .ref h) rfl rfl rfl (by decide) m10_221 d_Mpr_cellOf_1 ?_
  refine px_getN S k_Mpg hT hw 1 0 50 (v := .ref (r 50)) rfl rfl rfl (by decide) m10_43n d_Mpr_cellOf_4 ?_
  refine lv_iload_n S.x S.b d_Mpr_cellOf_7 rfl (lv_at hl 1 rfl) ?_
  refine px_zald S hT hw 1 29 (n := 1100) (f := (ca 50)) rfl gp_50 (x := p0) (vp_in_iff.mpr (by first | exact oz_8308d4364a g0 g1 | (constructor <;> omega))) d_Mpr_cellOf_8 ?_
  refine lv_topi (fun z1 ez1 => ?_)
  have lz1 := Int32.le_toInt z1
  have uz1 := Int32.toInt_lt z1
  have r8 : z1.toInt = (ca 50 p0.toNatClampNeg).toInt := (by rw [ez1])
  refine lv_if_eq (tgt := 24) S.x S.b d_Mpr_cellOf_9 (by decide) (fun c2 => ?_) (fun c2 => ?_)
  · have nc2 : z1.toInt = (0 : Int) := (i_eq (x := z1) (y := 0)).mp c2
    refine lv_aload_n S.x S.b d_Mpr_cellOf_24 rfl (lv_at hl 0 rfl) ?_
    have hc0 := clo_0 (ca := ca) (base := (qf 12).toInt) (y := p0) (by omega)
    refine px_get S k_Mpr hT hw 0 0 12 (v := .int (qf 12)) rfl rfl rfl (by decide) m11_4 d_Mpr_cellOf_25 ?_
    refine lv_aload_n S.x S.b d_Mpr_cellOf_28 rfl (lv_at hl 0 rfl) ?_
    refine px_get S k_Mpr hT hw 0 0 0 (v := .ref h) rfl rfl rfl (by decide) m10_221 d_Mpr_cellOf_29 ?_
    refine px_getN S k_Mpg hT hw 1 0 51 (v := .ref (r 51)) rfl rfl rfl (by decide) m10_45n d_Mpr_cellOf_32 ?_
    refine lv_iload_n S.x S.b d_Mpr_cellOf_35 rfl (lv_at hl 1 rfl) ?_
    refine px_iald S hT hw 1 30 (n := 1100) (f := (ca 51)) rfl gp_51 (x := p0) (vp_in_iff.mpr (by first | exact oz_8308d4364a g0 g1 | (constructor <;> omega))) d_Mpr_cellOf_36 ?_
    refine lv_topi (fun z3 ez3 => ?_)
    have lz3 := Int32.le_toInt z3
    have uz3 := Int32.toInt_lt z3
    have rz3 : z3.toInt = (ca 51 p0.toNatClampNeg).toInt := by rw [ez3]
    refine lv_iadd S.x S.b d_Mpr_cellOf_37 ?_
    have lr4 := Int32.le_toInt (qf 12)
    have ur4 := Int32.toInt_lt (qf 12)
    refine lv_topi (fun z5 ez5 => ?_)
    have tz5 : z5.toInt = ((qf 12).toInt + z3.toInt + 2147483648) % 4294967296 - 2147483648 := by rw [ez5]; exact i_add (qf 12) z3
    have lz5 := Int32.le_toInt z5
    have uz5 := Int32.toInt_lt z5
    try replace tz5 : z5.toInt = (qf 12).toInt + z3.toInt := by omega
    exact px_iret (v := z5) S hr rfl hlk hAe hw (Nat.le_of_ble_eq_true rfl) (Nat.le_of_ble_eq_true rfl) (⟨rfl, (show z5.toInt = clo ca (qf 12).toInt p0 from by first | with_reducible rfl | with_reducible assumption | omega)⟩) d_Mpr_cellOf_38
  · have nc2 : ¬ z1.toInt = (0 : Int) := mt (i_eq (x := z1) (y := 0)).mpr c2
    refine lv_aload_n S.x S.b d_Mpr_cellOf_12 rfl (lv_at hl 0 rfl) ?_
    have hc1 := clo_1 (ca := ca) (base := (qf 12).toInt) (y := p0) (by omega)
    refine px_get S k_Mpr hT hw 0 0 0 (v := .ref h) rfl rfl rfl (by decide) m10_221 d_Mpr_cellOf_13 ?_
    refine px_getN S k_Mpg hT hw 1 0 51 (v := .ref (r 51)) rfl rfl rfl (by decide) m10_45n d_Mpr_cellOf_16 ?_
    refine lv_iload_n S.x S.b d_Mpr_cellOf_19 rfl (lv_at hl 1 rfl) ?_
    refine px_iald S hT hw 1 30 (n := 1100) (f := (ca 51)) rfl gp_51 (x := p0) (vp_in_iff.mpr (by first | exact oz_8308d4364a g0 g1 | (constructor <;> omega))) d_Mpr_cellOf_20 ?_
    refine lv_topi (fun z6 ez6 => ?_)
    have lz6 := Int32.le_toInt z6
    have uz6 := Int32.toInt_lt z6
    have rz6 : z6.toInt = (ca 51 p0.toNatClampNeg).toInt := by rw [ez6]
    refine lv_goto (tgt := 38) S.x S.b d_Mpr_cellOf_21 (by decide) ?_
    exact px_iret (v := z6) S hr rfl hlk hAe hw (Nat.le_of_ble_eq_true rfl) (Nat.le_of_ble_eq_true rfl) (⟨rfl, (show z6.toInt = clo ca (qf 12).toInt p0 from by first | with_reducible rfl | with_reducible assumption | omega)⟩) d_Mpr_cellOf_38
abbrev b_Mpr_isGiven : ByteArray := prog_15_method_10_code
def y_Mpr_isGiven : MethodName := ⟨"HomeSystemModel$Process", "isGiven", "(I)Z"⟩
theorem d_Mpr_isGiven_0 : decode b_Mpr_isGiven 0 = .ok (.aload_n 0, 1) := by decide +kernel
theorem d_Mpr_isGiven_1 : decode b_Mpr_isGiven 1 = .ok (.getfield 52, 3) := by decide +kernel
theorem d_Mpr_isGiven_4 : decode b_Mpr_isGiven 4 = .ok (.getfield 116, 3) := by decide +kernel
theorem d_Mpr_isGiven_7 : decode b_Mpr_isGiven 7 = .ok (.iload_n 1, 1) := by decide +kernel
theorem d_Mpr_isGiven_8 : decode b_Mpr_isGiven 8 = .ok (.baload, 1) := by decide +kernel
theorem d_Mpr_isGiven_9 : decode b_Mpr_isGiven 9 = .ok (.iconst 4, 1) := by decide +kernel
theorem d_Mpr_isGiven_10 : decode b_Mpr_isGiven 10 = .ok (.if_icmp .lt 7, 3) := by decide +kernel
theorem d_Mpr_isGiven_13 : decode b_Mpr_isGiven 13 = .ok (.iconst 1, 1) := by decide +kernel
theorem d_Mpr_isGiven_14 : decode b_Mpr_isGiven 14 = .ok (.goto 4, 3) := by decide +kernel
theorem d_Mpr_isGiven_17 : decode b_Mpr_isGiven 17 = .ok (.iconst 0, 1) := by decide +kernel
theorem d_Mpr_isGiven_18 : decode b_Mpr_isGiven 18 = .ok (.ireturn, 1) := by decide +kernel
theorem q_Mpr_isGiven : px_y y_Mpr_isGiven 1 := by unfold px_y; decide +kernel
set_option maxHeartbeats 4000000 in
set_option maxRecDepth 100000 in
theorem c_mr_isGiven (l : Launch) (D : va_G) (cs : Nat → ClassId) (nf : Int) (q : Nat) (qr : Nat → Nat) (qg : Nat → Nat → Option Nat) (qf : Nat → Int32) (qa : Nat → Nat → Int32) (h : Nat) (r : Nat → Nat) (g : Nat → Nat → Option Nat) (tf : Nat → Int32) (ta : Nat → Nat → Int32) (pf : Nat → Int32) (na : Nat → Nat → Int32) (ma : Nat → Nat → Int32) (wa : Nat → Nat → Int32) (cf : Nat → Int32) (ca : Nat → Nat → Int32) (ef : Nat → Int32) (ea : Nat → Nat → Int32) (xf : Nat → Int32) (xa : Nat → Nat → Int32) (p0 : Int32)  (g0 : 0 ≤ p0.toInt) (g1 : p0.toInt < 1100) : MetI l y_Mpr_isGiven b_Mpr_isGiven 2 (.boolean) D cs 0 0 (0) (0) [.ref q, .int p0] [wd_Mpr cs q qr (fun k => if k = 0 then (some h) else none) qf qa qg, wdP cs h r g tf ta pf na ma wa cf ca ef ea xf xa] (oX (fun A U H => (oP A g U H)) [wd_Mpr cs q qr (fun k => if k = 0 then (some h) else none) qf qa qg, wdP cs h r g tf ta pf na ma wa cf ca ef ea xf xa]) (fun v ps => (ps = [wd_Mpr cs q qr (fun k => if k = 0 then (some h) else none) qf qa qg, wdP cs h r g tf ta pf na ma wa cf ca ef ea xf xa]) ∧ (0 ≤ v.toInt) ∧ (v.toInt ≤ 1) ∧ (v.toInt = 1 → 4 ≤ (ca 49 p0.toNatClampNeg).toInt) ∧ (v.toInt = 0 → (ca 49 p0.toNatClampNeg).toInt < 4)) := by
  refine px_enter (by decide) (Nat.le_of_ble_eq_true rfl) ?_
  intro p e s m below meth c A ls hAe S hr hlk hnm hA hT hX hw hl
  replace hl : lv_has ls 2 [(0, .ref q), (1, .int p0)] := hl
  have lp0 := Int32.le_toInt p0
  have up0 := Int32.toInt_lt p0
  have cst0 : (0 : Int32).toInt = 0 := rfl
  have cst1 : (1 : Int32).toInt = 1 := rfl
  have cst4 : (4 : Int32).toInt = 4 := rfl
  have hX : (fun A U H => (oP A g U H)) A s s.heap := by rw [hAe]; exact hX
  have hP := hX
  have hZ := hP.1
  have hF0 := hP.2.1
  refine lv_aload_n S.x S.b d_Mpr_isGiven_0 rfl (lv_at hl 0 rfl) ?_
  refine px_get S k_Mpr hT hw 0 0 0 (v := .ref h) rfl rfl rfl (by decide) m10_221 d_Mpr_isGiven_1 ?_
  refine px_getN S k_Mpg hT hw 1 0 49 (v := .ref (r 49)) rfl rfl rfl (by decide) m10_41n d_Mpr_isGiven_4 ?_
  refine lv_iload_n S.x S.b d_Mpr_isGiven_7 rfl (lv_at hl 1 rfl) ?_
  refine px_bald S hT hw 1 28 (n := 1100) (f := (ca 49)) rfl gp_49 (x := p0) (vp_in_iff.mpr (by first | exact oz_8308d4364a g0 g1 | (constructor <;> omega))) d_Mpr_isGiven_8 ?_
  refine lv_topi (fun z1 ez1 => ?_)
  have lz1 := Int32.le_toInt z1
  have uz1 := Int32.toInt_lt z1
  have rz1 : z1.toInt = (ca 49 p0.toNatClampNeg).toInt := by rw [ez1]
  refine lv_iconst (v := 4) S.x S.b d_Mpr_isGiven_9 (by decide) ?_
  refine lv_icmp_lt (tgt := 17) S.x S.b d_Mpr_isGiven_10 (by decide) (fun c2 => ?_) (fun c2 => ?_)
  · have nc2 : z1.toInt < (4 : Int) := (i_lt (x := z1) (y := 4)).mp c2
    refine lv_iconst (v := 0) S.x S.b d_Mpr_isGiven_17 (by decide) ?_
    exact px_iret (v := 0) S hr rfl hlk hAe hw (Nat.le_of_ble_eq_true rfl) (Nat.le_of_ble_eq_true rfl) (⟨rfl, (show 0 ≤ (0 : Int) from by first | decide | omega), (show (0 : Int) ≤ 1 from by first | decide | omega), (show (0 : Int) = 1 → 4 ≤ (ca 49 p0.toNatClampNeg).toInt from by first | with_reducible rfl | with_reducible assumption | omega), (show (0 : Int) = 0 → (ca 49 p0.toNatClampNeg).toInt < 4 from by first | with_reducible rfl | with_reducible assumption | omega)⟩) d_Mpr_isGiven_18
  · have nc2 : ¬ z1.toInt < (4 : Int) := mt (i_lt (x := z1) (y := 4)).mpr c2
    refine lv_iconst (v := 1) S.x S.b d_Mpr_isGiven_13 (by decide) ?_
    refine lv_goto (tgt := 18) S.x S.b d_Mpr_isGiven_14 (by decide) ?_
    exact px_iret (v := 1) S hr rfl hlk hAe hw (Nat.le_of_ble_eq_true rfl) (Nat.le_of_ble_eq_true rfl) (⟨rfl, (show 0 ≤ (1 : Int) from by first | decide | omega), (show (1 : Int) ≤ 1 from by first | decide | omega), (show (1 : Int) = 1 → 4 ≤ (ca 49 p0.toNatClampNeg).toInt from by first | with_reducible rfl | with_reducible assumption | omega), (show (1 : Int) = 0 → (ca 49 p0.toNatClampNeg).toInt < 4 from by first | with_reducible rfl | with_reducible assumption | omega)⟩) d_Mpr_isGiven_18
abbrev b_Mpr_arrayAt : ByteArray := prog_15_method_11_code
def y_Mpr_arrayAt : MethodName := ⟨"HomeSystemModel$Process", "arrayAt", "(I)I"⟩
theorem d_Mpr_arrayAt_0 : decode b_Mpr_arrayAt 0 = .ok (.aload_n 0, 1) := by decide +kernel
theorem d_Mpr_arrayAt_1 : decode b_Mpr_arrayAt 1 = .ok (.iload_n 1, 1) := by decide +kernel
theorem d_Mpr_arrayAt_2 : decode b_Mpr_arrayAt 2 = .ok (.invokevirtual 120, 3) := by decide +kernel
theorem d_Mpr_arrayAt_5 : decode b_Mpr_arrayAt 5 = .ok (.ifCond .eq 16, 3) := by decide +kernel
theorem d_Mpr_arrayAt_8 : decode b_Mpr_arrayAt 8 = .ok (.aload_n 0, 1) := by decide +kernel
theorem d_Mpr_arrayAt_9 : decode b_Mpr_arrayAt 9 = .ok (.getfield 10, 3) := by decide +kernel
theorem d_Mpr_arrayAt_12 : decode b_Mpr_arrayAt 12 = .ok (.aload_n 0, 1) := by decide +kernel
theorem d_Mpr_arrayAt_13 : decode b_Mpr_arrayAt 13 = .ok (.iload_n 1, 1) := by decide +kernel
theorem d_Mpr_arrayAt_14 : decode b_Mpr_arrayAt 14 = .ok (.invokevirtual 124, 3) := by decide +kernel
theorem d_Mpr_arrayAt_17 : decode b_Mpr_arrayAt 17 = .ok (.iaload, 1) := by decide +kernel
theorem d_Mpr_arrayAt_18 : decode b_Mpr_arrayAt 18 = .ok (.goto 8, 3) := by decide +kernel
theorem d_Mpr_arrayAt_21 : decode b_Mpr_arrayAt 21 = .ok (.aload_n 0, 1) := by decide +kernel
theorem d_Mpr_arrayAt_22 : decode b_Mpr_arrayAt 22 = .ok (.iload_n 1, 1) := by decide +kernel
theorem d_Mpr_arrayAt_23 : decode b_Mpr_arrayAt 23 = .ok (.invokevirtual 124, 3) := by decide +kernel
theorem d_Mpr_arrayAt_26 : decode b_Mpr_arrayAt 26 = .ok (.ireturn, 1) := by decide +kernel
theorem q_Mpr_arrayAt : px_y y_Mpr_arrayAt 1 := by unfold px_y; decide +kernel
set_option maxHeartbeats 4000000 in
set_option maxRecDepth 100000 in
theorem c_mr_arrayAt (l : Launch) (D : va_G) (cs : Nat → ClassId) (nf : Int) (q : Nat) (qr : Nat → Nat) (qg : Nat → Nat → Option Nat) (qf : Nat → Int32) (qa : Nat → Nat → Int32) (h : Nat) (r : Nat → Nat) (g : Nat → Nat → Option Nat) (tf : Nat → Int32) (ta : Nat → Nat → Int32) (pf : Nat → Int32) (na : Nat → Nat → Int32) (ma : Nat → Nat → Int32) (wa : Nat → Nat → Int32) (cf : Nat → Int32) (ca : Nat → Nat → Int32) (ef : Nat → Int32) (ea : Nat → Nat → Int32) (xf : Nat → Int32) (xa : Nat → Nat → Int32) (p0 : Int32)  (g0 : 0 ≤ p0.toInt) (g1 : p0.toInt < 1100) (g2 : 0 ≤ clo ca (qf 12).toInt p0) (g3 : clo ca (qf 12).toInt p0 ≤ 36990) : MetI l y_Mpr_arrayAt b_Mpr_arrayAt 2 (.int) D cs 2 60 (0) (0) [.ref q, .int p0] [wd_Mpr cs q qr (fun k => if k = 0 then (some h) else none) qf qa qg, wdP cs h r g tf ta pf na ma wa cf ca ef ea xf xa] (oX (fun A U H => (oP A g U H)) [wd_Mpr cs q qr (fun k => if k = 0 then (some h) else none) qf qa qg, wdP cs h r g tf ta pf na ma wa cf ca ef ea xf xa]) (fun v ps => (ps = [wd_Mpr cs q qr (fun k => if k = 0 then (some h) else none) qf qa qg, wdP cs h r g tf ta pf na ma wa cf ca ef ea xf xa]) ∧ (v.toInt = arA ca qa (qf 12).toInt p0)) := by
  refine px_enter (by decide) (Nat.le_of_ble_eq_true rfl) ?_
  intro p e s m below meth c A ls hAe S hr hlk hnm hA hT hX hw hl
  replace hl : lv_has ls 2 [(0, .ref q), (1, .int p0)] := hl
  have lp0 := Int32.le_toInt p0
  have up0 := Int32.toInt_lt p0
  have hX : (fun A U H => (oP A g U H)) A s s.heap := by rw [hAe]; exact hX
  have hP := hX
  have hZ := hP.1
  have hF0 := hP.2.1
  refine lv_aload_n S.x S.b d_Mpr_arrayAt_0 rfl (lv_at hl 0 rfl) ?_
  refine lv_iload_n S.x S.b d_Mpr_arrayAt_1 rfl (lv_at hl 1 rfl) ?_
  refine px_calli (pr := []) (px_runV (As := [.int p0]) (rest := []) S (c_mr_isGiven l D cs nf q qr qg qf qa h r g tf ta pf na ma wa cf ca ef ea xf xa p0  (show 0 ≤ p0.toInt from by first | exact g0 | omega) (show p0.toInt < 1100 from by first | exact g1 | omega) _) hT (pr := []) (pcs := [wd_Mpr cs q qr (fun k => if k = 0 then (some h) else none) qf qa qg, wdP cs h r g tf ta pf na ma wa cf ca ef ea xf xa]) hw (oX_call (P := (fun A U H => (oP A g U H))) (pr := []) oG_P hw hA hP) (px_recv hT hw 0 0 rfl rfl rfl) m14_139 m14_136 m14_138 ms_16_15 m1_22 q_Mpr_isGiven ⟨Nat.le_of_ble_eq_true rfl, Nat.le_of_ble_eq_true rfl⟩ hl.1 rfl (Nat.le_of_ble_eq_true rfl) d_Mpr_arrayAt_2 ⟨Nat.le_of_ble_eq_true rfl, Nat.le_of_ble_eq_true rfl⟩) hw hA (fun v2 p1 H locs hp1 hw => ?_)
  obtain ⟨rfl, e3, e4, e5, e6⟩ := hp1
  replace e3 : 0 ≤ v2.toInt := e3
  replace e4 : v2.toInt ≤ 1 := e4
  replace e5 : v2.toInt = 1 → 4 ≤ (ca 49 p0.toNatClampNeg).toInt := e5
  replace e6 : v2.toInt = 0 → (ca 49 p0.toNatClampNeg).toInt < 4 := e6
  replace hw : pw D A s.heap H locs [wd_Mpr cs q qr (fun k => if k = 0 then (some h) else none) qf qa qg, wdP cs h r g tf ta pf na ma wa cf ca ef ea xf xa] := hw
  have lv2 := Int32.le_toInt v2
  have uv2 := Int32.toInt_lt v2
  refine lv_if_eq (tgt := 21) S.x S.b d_Mpr_arrayAt_5 (by decide) (fun c7 => ?_) (fun c7 => ?_)
  · have nc7 : v2.toInt = (0 : Int) := (i_eq (x := v2) (y := 0)).mp c7
    refine lv_aload_n S.x S.b d_Mpr_arrayAt_21 rfl (lv_at hl 0 rfl) ?_
    have hrr9 := arA_0 (ca := ca) (qa := qa) (base := (qf 12).toInt) (y := p0) (by omega)
    refine lv_iload_n S.x S.b d_Mpr_arrayAt_22 rfl (lv_at hl 1 rfl) ?_
    refine px_calli (pr := []) (px_runV (As := [.int p0]) (rest := []) S (c_mr_cellOf l D cs nf q qr qg qf qa h r g tf ta pf na ma wa cf ca ef ea xf xa p0  (show 0 ≤ p0.toInt from by first | exact g0 | omega) (show p0.toInt < 1100 from by first | exact g1 | omega) (show 0 ≤ clo ca (qf 12).toInt p0 from by first | exact g2 | omega) (show clo ca (qf 12).toInt p0 ≤ 36990 from by first | exact g3 | omega) _) hT (pr := []) (pcs := [wd_Mpr cs q qr (fun k => if k = 0 then (some h) else none) qf qa qg, wdP cs h r g tf ta pf na ma wa cf ca ef ea xf xa]) hw (oX_call (P := (fun A U H => (oP A g U H))) (pr := []) oG_P hw hA hP) (px_recv hT hw 0 0 rfl rfl rfl) m14_119 m14_116 m14_118 ms_16_11 m1_22 q_Mpr_cellOf ⟨Nat.le_of_ble_eq_true rfl, Nat.le_of_ble_eq_true rfl⟩ hl.1 rfl (Nat.le_of_ble_eq_true rfl) d_Mpr_arrayAt_23 ⟨Nat.le_of_ble_eq_true rfl, Nat.le_of_ble_eq_true rfl⟩) hw hA (fun v9 p8 H locs hp8 hw => ?_)
    obtain ⟨rfl, e10⟩ := hp8
    replace e10 : v9.toInt = clo ca (qf 12).toInt p0 := e10
    replace hw : pw D A s.heap H locs [wd_Mpr cs q qr (fun k => if k = 0 then (some h) else none) qf qa qg, wdP cs h r g tf ta pf na ma wa cf ca ef ea xf xa] := hw
    have lv9 := Int32.le_toInt v9
    have uv9 := Int32.toInt_lt v9
    exact px_iret (v := v9) S hr rfl hlk hAe hw (Nat.le_of_ble_eq_true rfl) (Nat.le_of_ble_eq_true rfl) (⟨rfl, (show v9.toInt = arA ca qa (qf 12).toInt p0 from by first | with_reducible rfl | with_reducible assumption | omega)⟩) d_Mpr_arrayAt_26
  · have nc7 : ¬ v2.toInt = (0 : Int) := mt (i_eq (x := v2) (y := 0)).mpr c7
    refine lv_aload_n S.x S.b d_Mpr_arrayAt_8 rfl (lv_at hl 0 rfl) ?_
    have hrr9 := arA_1 (ca := ca) (qa := qa) (base := (qf 12).toInt) (y := p0) (by omega)
    refine px_get S k_Mpr hT hw 0 0 8 (v := .ref (qr 8)) rfl rfl rfl (by decide) m10_236 d_Mpr_arrayAt_9 ?_
    refine lv_aload_n S.x S.b d_Mpr_arrayAt_12 rfl (lv_at hl 0 rfl) ?_
    refine lv_iload_n S.x S.b d_Mpr_arrayAt_13 rfl (lv_at hl 1 rfl) ?_
    refine px_calli (pr := []) (px_runV (As := [.int p0]) (rest := [.ref (qr 8)]) S (c_mr_cellOf l D cs nf q qr qg qf qa h r g tf ta pf na ma wa cf ca ef ea xf xa p0  (show 0 ≤ p0.toInt from by first | exact g0 | omega) (show p0.toInt < 1100 from by first | exact g1 | omega) (show 0 ≤ clo ca (qf 12).toInt p0 from by first | exact g2 | omega) (show clo ca (qf 12).toInt p0 ≤ 36990 from by first | exact g3 | omega) _) hT (pr := []) (pcs := [wd_Mpr cs q qr (fun k => if k = 0 then (some h) else none) qf qa qg, wdP cs h r g tf ta pf na ma wa cf ca ef ea xf xa]) hw (oX_call (P := (fun A U H => (oP A g U H))) (pr := []) oG_P hw hA hP) (px_recv hT hw 0 0 rfl rfl rfl) m14_119 m14_116 m14_118 ms_16_11 m1_22 q_Mpr_cellOf ⟨Nat.le_of_ble_eq_true rfl, Nat.le_of_ble_eq_true rfl⟩ hl.1 rfl (Nat.le_of_ble_eq_true rfl) d_Mpr_arrayAt_14 ⟨Nat.le_of_ble_eq_true rfl, Nat.le_of_ble_eq_true rfl⟩) hw hA (fun v12 p11 H locs hp11 hw => ?_)
    obtain ⟨rfl, e13⟩ := hp11
    replace e13 : v12.toInt = clo ca (qf 12).toInt p0 := e13
    replace hw : pw D A s.heap H locs [wd_Mpr cs q qr (fun k => if k = 0 then (some h) else none) qf qa qg, wdP cs h r g tf ta pf na ma wa cf ca ef ea xf xa] := hw
    have lv12 := Int32.le_toInt v12
    have uv12 := Int32.toInt_lt v12
    refine px_iald S hT hw 0 1 (n := 37000) (f := (qa 8)) rfl (ga_Mpr_8 _ _ _ _ _ _ _) (x := v12) (vp_in_iff.mpr (by first | exact oz_24cea6123d e13 g2 g3 | (constructor <;> omega))) d_Mpr_arrayAt_17 ?_
    refine lv_topi (fun z14 ez14 => ?_)
    have lz14 := Int32.le_toInt z14
    have uz14 := Int32.toInt_lt z14
    have ha8 := at_8 (n := clo ca (qf 12).toInt p0) ez14 (by omega) (by omega)
    refine lv_goto (tgt := 26) S.x S.b d_Mpr_arrayAt_18 (by decide) ?_
    exact px_iret (v := z14) S hr rfl hlk hAe hw (Nat.le_of_ble_eq_true rfl) (Nat.le_of_ble_eq_true rfl) (⟨rfl, (show z14.toInt = arA ca qa (qf 12).toInt p0 from by first | with_reducible rfl | with_reducible assumption | omega)⟩) d_Mpr_arrayAt_26
abbrev b_Mpr_arraySize : ByteArray := prog_15_method_12_code
def y_Mpr_arraySize : MethodName := ⟨"HomeSystemModel$Process", "arraySize", "(I)I"⟩
theorem d_Mpr_arraySize_0 : decode b_Mpr_arraySize 0 = .ok (.aload_n 0, 1) := by decide +kernel
theorem d_Mpr_arraySize_1 : decode b_Mpr_arraySize 1 = .ok (.iload_n 1, 1) := by decide +kernel
theorem d_Mpr_arraySize_2 : decode b_Mpr_arraySize 2 = .ok (.invokevirtual 120, 3) := by decide +kernel
theorem d_Mpr_arraySize_5 : decode b_Mpr_arraySize 5 = .ok (.ifCond .eq 18, 3) := by decide +kernel
theorem d_Mpr_arraySize_8 : decode b_Mpr_arraySize 8 = .ok (.aload_n 0, 1) := by decide +kernel
theorem d_Mpr_arraySize_9 : decode b_Mpr_arraySize 9 = .ok (.getfield 10, 3) := by decide +kernel
theorem d_Mpr_arraySize_12 : decode b_Mpr_arraySize 12 = .ok (.aload_n 0, 1) := by decide +kernel
theorem d_Mpr_arraySize_13 : decode b_Mpr_arraySize 13 = .ok (.iload_n 1, 1) := by decide +kernel
theorem d_Mpr_arraySize_14 : decode b_Mpr_arraySize 14 = .ok (.invokevirtual 124, 3) := by decide +kernel
theorem d_Mpr_arraySize_17 : decode b_Mpr_arraySize 17 = .ok (.iconst 1, 1) := by decide +kernel
theorem d_Mpr_arraySize_18 : decode b_Mpr_arraySize 18 = .ok (.iadd, 1) := by decide +kernel
theorem d_Mpr_arraySize_19 : decode b_Mpr_arraySize 19 = .ok (.iaload, 1) := by decide +kernel
theorem d_Mpr_arraySize_20 : decode b_Mpr_arraySize 20 = .ok (.goto 12, 3) := by decide +kernel
theorem d_Mpr_arraySize_23 : decode b_Mpr_arraySize 23 = .ok (.aload_n 0, 1) := by decide +kernel
theorem d_Mpr_arraySize_24 : decode b_Mpr_arraySize 24 = .ok (.getfield 52, 3) := by decide +kernel
theorem d_Mpr_arraySize_27 : decode b_Mpr_arraySize 27 = .ok (.getfield 128, 3) := by decide +kernel
theorem d_Mpr_arraySize_30 : decode b_Mpr_arraySize 30 = .ok (.iload_n 1, 1) := by decide +kernel
theorem d_Mpr_arraySize_31 : decode b_Mpr_arraySize 31 = .ok (.iaload, 1) := by decide +kernel
theorem d_Mpr_arraySize_32 : decode b_Mpr_arraySize 32 = .ok (.ireturn, 1) := by decide +kernel
theorem q_Mpr_arraySize : px_y y_Mpr_arraySize 1 := by unfold px_y; decide +kernel
set_option maxHeartbeats 4000000 in
set_option maxRecDepth 100000 in
theorem c_mr_arraySize (l : Launch) (D : va_G) (cs : Nat → ClassId) (nf : Int) (q : Nat) (qr : Nat → Nat) (qg : Nat → Nat → Option Nat) (qf : Nat → Int32) (qa : Nat → Nat → Int32) (h : Nat) (r : Nat → Nat) (g : Nat → Nat → Option Nat) (tf : Nat → Int32) (ta : Nat → Nat → Int32) (pf : Nat → Int32) (na : Nat → Nat → Int32) (ma : Nat → Nat → Int32) (wa : Nat → Nat → Int32) (cf : Nat → Int32) (ca : Nat → Nat → Int32) (ef : Nat → Int32) (ea : Nat → Nat → Int32) (xf : Nat → Int32) (xa : Nat → Nat → Int32) (p0 : Int32)  (g0 : 0 ≤ p0.toInt) (g1 : p0.toInt < 1100) (g2 : 0 ≤ clo ca (qf 12).toInt p0) (g3 : clo ca (qf 12).toInt p0 ≤ 36990) : MetI l y_Mpr_arraySize b_Mpr_arraySize 2 (.int) D cs 2 60 (0) (0) [.ref q, .int p0] [wd_Mpr cs q qr (fun k => if k = 0 then (some h) else none) qf qa qg, wdP cs h r g tf ta pf na ma wa cf ca ef ea xf xa] (oX (fun A U H => (oP A g U H)) [wd_Mpr cs q qr (fun k => if k = 0 then (some h) else none) qf qa qg, wdP cs h r g tf ta pf na ma wa cf ca ef ea xf xa]) (fun v ps => (ps = [wd_Mpr cs q qr (fun k => if k = 0 then (some h) else none) qf qa qg, wdP cs h r g tf ta pf na ma wa cf ca ef ea xf xa]) ∧ (v.toInt = arN ca qa (qf 12).toInt p0)) := by
  refine px_enter (by decide) (Nat.le_of_ble_eq_true rfl) ?_
  intro p e s m below meth c A ls hAe S hr hlk hnm hA hT hX hw hl
  replace hl : lv_has ls 2 [(0, .ref q), (1, .int p0)] := hl
  have lp0 := Int32.le_toInt p0
  have up0 := Int32.toInt_lt p0
  have cst1 : (1 : Int32).toInt = 1 := rfl
  have hX : (fun A U H => (oP A g U H)) A s s.heap := by rw [hAe]; exact hX
  have hP := hX
  have hZ := hP.1
  have hF0 := hP.2.1
  refine lv_aload_n S.x S.b d_Mpr_arraySize_0 rfl (lv_at hl 0 rfl) ?_
  refine lv_iload_n S.x S.b d_Mpr_arraySize_1 rfl (lv_at hl 1 rfl) ?_
  refine px_calli (pr := []) (px_runV (As := [.int p0]) (rest := []) S (c_mr_isGiven l D cs nf q qr qg qf qa h r g tf ta pf na ma wa cf ca ef ea xf xa p0  (show 0 ≤ p0.toInt from by first | exact g0 | omega) (show p0.toInt < 1100 from by first | exact g1 | omega) _) hT (pr := []) (pcs := [wd_Mpr cs q qr (fun k => if k = 0 then (some h) else none) qf qa qg, wdP cs h r g tf ta pf na ma wa cf ca ef ea xf xa]) hw (oX_call (P := (fun A U H => (oP A g U H))) (pr := []) oG_P hw hA hP) (px_recv hT hw 0 0 rfl rfl rfl) m14_139 m14_136 m14_138 ms_16_15 m1_22 q_Mpr_isGiven ⟨Nat.le_of_ble_eq_true rfl, Nat.le_of_ble_eq_true rfl⟩ hl.1 rfl (Nat.le_of_ble_eq_true rfl) d_Mpr_arraySize_2 ⟨Nat.le_of_ble_eq_true rfl, Nat.le_of_ble_eq_true rfl⟩) hw hA (fun v2 p1 H locs hp1 hw => ?_)
  obtain ⟨rfl, e3, e4, e5, e6⟩ := hp1
  replace e3 : 0 ≤ v2.toInt := e3
  replace e4 : v2.toInt ≤ 1 := e4
  replace e5 : v2.toInt = 1 → 4 ≤ (ca 49 p0.toNatClampNeg).toInt := e5
  replace e6 : v2.toInt = 0 → (ca 49 p0.toNatClampNeg).toInt < 4 := e6
  replace hw : pw D A s.heap H locs [wd_Mpr cs q qr (fun k => if k = 0 then (some h) else none) qf qa qg, wdP cs h r g tf ta pf na ma wa cf ca ef ea xf xa] := hw
  have lv2 := Int32.le_toInt v2
  have uv2 := Int32.toInt_lt v2
  refine lv_if_eq (tgt := 23) S.x S.b d_Mpr_arraySize_5 (by decide) (fun c7 => ?_) (fun c7 => ?_)
  · have nc7 : v2.toInt = (0 : Int) := (i_eq (x := v2) (y := 0)).mp c7
    refine lv_aload_n S.x S.b d_Mpr_arraySize_23 rfl (lv_at hl 0 rfl) ?_
    have hrr9 := arN_0 (ca := ca) (qa := qa) (base := (qf 12).toInt) (y := p0) (by omega)
    refine px_get S k_Mpr hT hw 0 0 0 (v := .ref h) rfl rfl rfl (by decide) m10_221 d_Mpr_arraySize_24 ?_
    refine px_getN S k_Mpg hT hw 1 0 52 (v := .ref (r 52)) rfl rfl rfl (by decide) m10_47n d_Mpr_arraySize_27 ?_
    refine lv_iload_n S.x S.b d_Mpr_arraySize_30 rfl (lv_at hl 1 rfl) ?_
    refine px_iald S hT hw 1 31 (n := 1100) (f := (ca 52)) rfl gp_52 (x := p0) (vp_in_iff.mpr (by first | exact oz_8308d4364a g0 g1 | (constructor <;> omega))) d_Mpr_arraySize_31 ?_
    refine lv_topi (fun z8 ez8 => ?_)
    have lz8 := Int32.le_toInt z8
    have uz8 := Int32.toInt_lt z8
    have rz8 : z8.toInt = (ca 52 p0.toNatClampNeg).toInt := by rw [ez8]
    exact px_iret (v := z8) S hr rfl hlk hAe hw (Nat.le_of_ble_eq_true rfl) (Nat.le_of_ble_eq_true rfl) (⟨rfl, (show z8.toInt = arN ca qa (qf 12).toInt p0 from by first | with_reducible rfl | with_reducible assumption | omega)⟩) d_Mpr_arraySize_32
  · have nc7 : ¬ v2.toInt = (0 : Int) := mt (i_eq (x := v2) (y := 0)).mpr c7
    refine lv_aload_n S.x S.b d_Mpr_arraySize_8 rfl (lv_at hl 0 rfl) ?_
    have hrr9 := arN_1 (ca := ca) (qa := qa) (base := (qf 12).toInt) (y := p0) (by omega)
    refine px_get S k_Mpr hT hw 0 0 8 (v := .ref (qr 8)) rfl rfl rfl (by decide) m10_236 d_Mpr_arraySize_9 ?_
    refine lv_aload_n S.x S.b d_Mpr_arraySize_12 rfl (lv_at hl 0 rfl) ?_
    refine lv_iload_n S.x S.b d_Mpr_arraySize_13 rfl (lv_at hl 1 rfl) ?_
    refine px_calli (pr := []) (px_runV (As := [.int p0]) (rest := [.ref (qr 8)]) S (c_mr_cellOf l D cs nf q qr qg qf qa h r g tf ta pf na ma wa cf ca ef ea xf xa p0  (show 0 ≤ p0.toInt from by first | exact g0 | omega) (show p0.toInt < 1100 from by first | exact g1 | omega) (show 0 ≤ clo ca (qf 12).toInt p0 from by first | exact g2 | omega) (show clo ca (qf 12).toInt p0 ≤ 36990 from by first | exact g3 | omega) _) hT (pr := []) (pcs := [wd_Mpr cs q qr (fun k => if k = 0 then (some h) else none) qf qa qg, wdP cs h r g tf ta pf na ma wa cf ca ef ea xf xa]) hw (oX_call (P := (fun A U H => (oP A g U H))) (pr := []) oG_P hw hA hP) (px_recv hT hw 0 0 rfl rfl rfl) m14_119 m14_116 m14_118 ms_16_11 m1_22 q_Mpr_cellOf ⟨Nat.le_of_ble_eq_true rfl, Nat.le_of_ble_eq_true rfl⟩ hl.1 rfl (Nat.le_of_ble_eq_true rfl) d_Mpr_arraySize_14 ⟨Nat.le_of_ble_eq_true rfl, Nat.le_of_ble_eq_true rfl⟩) hw hA (fun v10 p9 H locs hp9 hw => ?_)
    obtain ⟨rfl, e11⟩ := hp9
    replace e11 : v10.toInt = clo ca (qf 12).toInt p0 := e11
    replace hw : pw D A s.heap H locs [wd_Mpr cs q qr (fun k => if k = 0 then (some h) else none) qf qa qg, wdP cs h r g tf ta pf na ma wa cf ca ef ea xf xa] := hw
    have lv10 := Int32.le_toInt v10
    have uv10 := Int32.toInt_lt v10
    refine lv_iconst (v := 1) S.x S.b d_Mpr_arraySize_17 (by decide) ?_
    refine lv_iadd S.x S.b d_Mpr_arraySize_18 ?_
    refine lv_topi (fun z12 ez12 => ?_)
    have tz12 : z12.toInt = (v10.toInt + (1 : Int) + 2147483648) % 4294967296 - 2147483648 := by rw [ez12]; exact i_add v10 1
    have lz12 := Int32.le_toInt z12
    have uz12 := Int32.toInt_lt z12
    try replace tz12 : z12.toInt = v10.toInt + (1 : Int) := by omega
    refine px_iald S hT hw 0 1 (n := 37000) (f := (qa 8)) rfl (ga_Mpr_8 _ _ _ _ _ _ _) (x := z12) (vp_in_iff.mpr (by first | exact oz_10778e8c7a tz12 e11 g2 g3 | (constructor <;> omega))) d_Mpr_arraySize_19 ?_
    refine lv_topi (fun z13 ez13 => ?_)
    have lz13 := Int32.le_toInt z13
    have uz13 := Int32.toInt_lt z13
    have ha8 := at_8 (n := clo ca (qf 12).toInt p0 + 1) ez13 (by omega) (by omega)
    refine lv_goto (tgt := 32) S.x S.b d_Mpr_arraySize_20 (by decide) ?_
    exact px_iret (v := z13) S hr rfl hlk hAe hw (Nat.le_of_ble_eq_true rfl) (Nat.le_of_ble_eq_true rfl) (⟨rfl, (show z13.toInt = arN ca qa (qf 12).toInt p0 from by first | with_reducible rfl | with_reducible assumption | omega)⟩) d_Mpr_arraySize_32
abbrev b_Mpr_stored : ByteArray := prog_15_method_13_code
def y_Mpr_stored : MethodName := ⟨"HomeSystemModel$Process", "stored", "(II)I"⟩
theorem d_Mpr_stored_0 : decode b_Mpr_stored 0 = .ok (.aload_n 0, 1) := by decide +kernel
theorem d_Mpr_stored_1 : decode b_Mpr_stored 1 = .ok (.getfield 52, 3) := by decide +kernel
theorem d_Mpr_stored_4 : decode b_Mpr_stored 4 = .ok (.getfield 116, 3) := by decide +kernel
theorem d_Mpr_stored_7 : decode b_Mpr_stored 7 = .ok (.iload_n 1, 1) := by decide +kernel
theorem d_Mpr_stored_8 : decode b_Mpr_stored 8 = .ok (.baload, 1) := by decide +kernel
theorem d_Mpr_stored_9 : decode b_Mpr_stored 9 = .ok (.istore_n 3, 1) := by decide +kernel
theorem d_Mpr_stored_10 : decode b_Mpr_stored 10 = .ok (.iload_n 3, 1) := by decide +kernel
theorem d_Mpr_stored_11 : decode b_Mpr_stored 11 = .ok (.iconst 1, 1) := by decide +kernel
theorem d_Mpr_stored_12 : decode b_Mpr_stored 12 = .ok (.if_icmp .eq 13, 3) := by decide +kernel
theorem d_Mpr_stored_15 : decode b_Mpr_stored 15 = .ok (.iload_n 3, 1) := by decide +kernel
theorem d_Mpr_stored_16 : decode b_Mpr_stored 16 = .ok (.iconst 3, 1) := by decide +kernel
theorem d_Mpr_stored_17 : decode b_Mpr_stored 17 = .ok (.if_icmp .eq 8, 3) := by decide +kernel
theorem d_Mpr_stored_20 : decode b_Mpr_stored 20 = .ok (.iload_n 3, 1) := by decide +kernel
theorem d_Mpr_stored_21 : decode b_Mpr_stored 21 = .ok (.iconst 5, 1) := by decide +kernel
theorem d_Mpr_stored_22 : decode b_Mpr_stored 22 = .ok (.if_icmp .ne 11, 3) := by decide +kernel
theorem d_Mpr_stored_25 : decode b_Mpr_stored 25 = .ok (.iload_n 2, 1) := by decide +kernel
theorem d_Mpr_stored_26 : decode b_Mpr_stored 26 = .ok (.sipush 255, 3) := by decide +kernel
theorem d_Mpr_stored_29 : decode b_Mpr_stored 29 = .ok (.iand, 1) := by decide +kernel
theorem d_Mpr_stored_30 : decode b_Mpr_stored 30 = .ok (.goto 4, 3) := by decide +kernel
theorem d_Mpr_stored_33 : decode b_Mpr_stored 33 = .ok (.iload_n 2, 1) := by decide +kernel
theorem d_Mpr_stored_34 : decode b_Mpr_stored 34 = .ok (.ireturn, 1) := by decide +kernel
theorem q_Mpr_stored : px_y y_Mpr_stored 2 := by unfold px_y; decide +kernel
set_option maxHeartbeats 4000000 in
set_option maxRecDepth 100000 in
theorem c_mr_stored (l : Launch) (D : va_G) (cs : Nat → ClassId) (nf : Int) (q : Nat) (qr : Nat → Nat) (qg : Nat → Nat → Option Nat) (qf : Nat → Int32) (qa : Nat → Nat → Int32) (h : Nat) (r : Nat → Nat) (g : Nat → Nat → Option Nat) (tf : Nat → Int32) (ta : Nat → Nat → Int32) (pf : Nat → Int32) (na : Nat → Nat → Int32) (ma : Nat → Nat → Int32) (wa : Nat → Nat → Int32) (cf : Nat → Int32) (ca : Nat → Nat → Int32) (ef : Nat → Int32) (ea : Nat → Nat → Int32) (xf : Nat → Int32) (xa : Nat → Nat → Int32) (p0 p1 : Int32)  (g0 : 0 ≤ p0.toInt) (g1 : p0.toInt < 1100) : MetI l y_Mpr_stored b_Mpr_stored 4 (.int) D cs 0 0 (0) (0) [.ref q, .int p0, .int p1] [wd_Mpr cs q qr (fun k => if k = 0 then (some h) else none) qf qa qg, wdP cs h r g tf ta pf na ma wa cf ca ef ea xf xa] (oX (fun A U H => (oP A g U H)) [wd_Mpr cs q qr (fun k => if k = 0 then (some h) else none) qf qa qg, wdP cs h r g tf ta pf na ma wa cf ca ef ea xf xa]) (fun v ps => (ps = [wd_Mpr cs q qr (fun k => if k = 0 then (some h) else none) qf qa qg, wdP cs h r g tf ta pf na ma wa cf ca ef ea xf xa])) := by
  refine px_enter (by decide) (Nat.le_of_ble_eq_true rfl) ?_
  intro p e s m below meth c A ls hAe S hr hlk hnm hA hT hX hw hl
  replace hl : lv_has ls 4 [(0, .ref q), (1, .int p0), (2, .int p1)] := hl
  have lp0 := Int32.le_toInt p0
  have up0 := Int32.toInt_lt p0
  have lp1 := Int32.le_toInt p1
  have up1 := Int32.toInt_lt p1
  have cst1 : (1 : Int32).toInt = 1 := rfl
  have cst3 : (3 : Int32).toInt = 3 := rfl
  have cst5 : (5 : Int32).toInt = 5 := rfl
  have cst255 : (255 : Int32).toInt = 255 := rfl
  have hX : (fun A U H => (oP A g U H)) A s s.heap := by rw [hAe]; exact hX
  have hP := hX
  have hZ := hP.1
  have hF0 := hP.2.1
  refine lv_aload_n S.x S.b d_Mpr_stored_0 rfl (lv_at hl 0 rfl) ?_
  refine px_get S k_Mpr hT hw 0 0 0 (v := .ref h) rfl rfl rfl (by decide) m10_221 d_Mpr_stored_1 ?_
  refine px_getN S k_Mpg hT hw 1 0 49 (v := .ref (r 49)) rfl rfl rfl (by decide) m10_41n d_Mpr_stored_4 ?_
  refine lv_iload_n S.x S.b d_Mpr_stored_7 rfl (lv_at hl 1 rfl) ?_
  refine px_bald S hT hw 1 28 (n := 1100) (f := (ca 49)) rfl gp_49 (x := p0) (vp_in_iff.mpr (by first | exact oz_8308d4364a g0 g1 | (constructor <;> omega))) d_Mpr_stored_8 ?_
  refine lv_topi (fun z1 ez1 => ?_)
  have lz1 := Int32.le_toInt z1
  have uz1 := Int32.toInt_lt z1
  have rz1 : z1.toInt = (ca 49 p0.toNatClampNeg).toInt := by rw [ez1]
  refine lv_istore_n (lv' := [(3, .int z1), (0, .ref q), (1, .int p0), (2, .int p1)]) S.x S.b d_Mpr_stored_9 rfl hl (by decide) rfl (fun ls hl => ?_)
  refine lv_iload_n S.x S.b d_Mpr_stored_10 rfl (lv_at hl 0 rfl) ?_
  refine lv_iconst (v := 1) S.x S.b d_Mpr_stored_11 (by decide) ?_
  refine lv_icmp_eq (tgt := 25) S.x S.b d_Mpr_stored_12 (by decide) (fun c2 => ?_) (fun c2 => ?_)
  · have nc2 : z1.toInt = (1 : Int) := (i_eq (x := z1) (y := 1)).mp c2
    refine lv_iload_n S.x S.b d_Mpr_stored_25 rfl (lv_at hl 3 rfl) ?_
    refine lv_sipush (v := 255) S.x S.b d_Mpr_stored_26 (by decide) ?_
    refine lv_iand S.x S.b d_Mpr_stored_29 ?_
    refine lv_topi (fun z3 ez3 => ?_)
    have lz3 := Int32.le_toInt z3
    have uz3 := Int32.toInt_lt z3
    have bz3 := i_andm p1 (m := 255) 8 (by decide) (by decide)
    rw [← ez3] at bz3
    have wz3 : 0 ≤ z3.toInt ∧ z3.toInt ≤ 255 := by simp only [Nat.reducePow, Int.reducePow] at bz3; omega
    refine lv_goto (tgt := 34) S.x S.b d_Mpr_stored_30 (by decide) ?_
    exact px_iret (v := z3) S hr rfl hlk hAe hw (Nat.le_of_ble_eq_true rfl) (Nat.le_of_ble_eq_true rfl) (rfl) d_Mpr_stored_34
  · have nc2 : ¬ z1.toInt = (1 : Int) := mt (i_eq (x := z1) (y := 1)).mpr c2
    refine lv_iload_n S.x S.b d_Mpr_stored_15 rfl (lv_at hl 0 rfl) ?_
    refine lv_iconst (v := 3) S.x S.b d_Mpr_stored_16 (by decide) ?_
    refine lv_icmp_eq (tgt := 25) S.x S.b d_Mpr_stored_17 (by decide) (fun c4 => ?_) (fun c4 => ?_)
    · have nc4 : z1.toInt = (3 : Int) := (i_eq (x := z1) (y := 3)).mp c4
      refine lv_iload_n S.x S.b d_Mpr_stored_25 rfl (lv_at hl 3 rfl) ?_
      refine lv_sipush (v := 255) S.x S.b d_Mpr_stored_26 (by decide) ?_
      refine lv_iand S.x S.b d_Mpr_stored_29 ?_
      refine lv_topi (fun z5 ez5 => ?_)
      have lz5 := Int32.le_toInt z5
      have uz5 := Int32.toInt_lt z5
      have bz5 := i_andm p1 (m := 255) 8 (by decide) (by decide)
      rw [← ez5] at bz5
      have wz5 : 0 ≤ z5.toInt ∧ z5.toInt ≤ 255 := by simp only [Nat.reducePow, Int.reducePow] at bz5; omega
      refine lv_goto (tgt := 34) S.x S.b d_Mpr_stored_30 (by decide) ?_
      exact px_iret (v := z5) S hr rfl hlk hAe hw (Nat.le_of_ble_eq_true rfl) (Nat.le_of_ble_eq_true rfl) (rfl) d_Mpr_stored_34
    · have nc4 : ¬ z1.toInt = (3 : Int) := mt (i_eq (x := z1) (y := 3)).mpr c4
      refine lv_iload_n S.x S.b d_Mpr_stored_20 rfl (lv_at hl 0 rfl) ?_
      refine lv_iconst (v := 5) S.x S.b d_Mpr_stored_21 (by decide) ?_
      refine lv_icmp_ne (tgt := 33) S.x S.b d_Mpr_stored_22 (by decide) (fun c6 => ?_) (fun c6 => ?_)
      · have nc6 : ¬ z1.toInt = (5 : Int) := mt (i_eq (x := z1) (y := 5)).mpr c6
        refine lv_iload_n S.x S.b d_Mpr_stored_33 rfl (lv_at hl 3 rfl) ?_
        exact px_iret (v := p1) S hr rfl hlk hAe hw (Nat.le_of_ble_eq_true rfl) (Nat.le_of_ble_eq_true rfl) (rfl) d_Mpr_stored_34
      · have nc6 : z1.toInt = (5 : Int) := (i_eq (x := z1) (y := 5)).mp c6
        refine lv_iload_n S.x S.b d_Mpr_stored_25 rfl (lv_at hl 3 rfl) ?_
        refine lv_sipush (v := 255) S.x S.b d_Mpr_stored_26 (by decide) ?_
        refine lv_iand S.x S.b d_Mpr_stored_29 ?_
        refine lv_topi (fun z7 ez7 => ?_)
        have lz7 := Int32.le_toInt z7
        have uz7 := Int32.toInt_lt z7
        have bz7 := i_andm p1 (m := 255) 8 (by decide) (by decide)
        rw [← ez7] at bz7
        have wz7 : 0 ≤ z7.toInt ∧ z7.toInt ≤ 255 := by simp only [Nat.reducePow, Int.reducePow] at bz7; omega
        refine lv_goto (tgt := 34) S.x S.b d_Mpr_stored_30 (by decide) ?_
        exact px_iret (v := z7) S hr rfl hlk hAe hw (Nat.le_of_ble_eq_true rfl) (Nat.le_of_ble_eq_true rfl) (rfl) d_Mpr_stored_34
abbrev b_Mpr_elementAt : ByteArray := prog_15_method_14_code
def y_Mpr_elementAt : MethodName := ⟨"HomeSystemModel$Process", "elementAt", "(II)I"⟩
theorem d_Mpr_elementAt_0 : decode b_Mpr_elementAt 0 = .ok (.iload_n 2, 1) := by decide +kernel
theorem d_Mpr_elementAt_1 : decode b_Mpr_elementAt 1 = .ok (.ifCond .lt 12, 3) := by decide +kernel
theorem d_Mpr_elementAt_4 : decode b_Mpr_elementAt 4 = .ok (.iload_n 2, 1) := by decide +kernel
theorem d_Mpr_elementAt_5 : decode b_Mpr_elementAt 5 = .ok (.aload_n 0, 1) := by decide +kernel
theorem d_Mpr_elementAt_6 : decode b_Mpr_elementAt 6 = .ok (.iload_n 1, 1) := by decide +kernel
theorem d_Mpr_elementAt_7 : decode b_Mpr_elementAt 7 = .ok (.invokevirtual 131, 3) := by decide +kernel
theorem d_Mpr_elementAt_10 : decode b_Mpr_elementAt 10 = .ok (.if_icmp .lt 11, 3) := by decide +kernel
theorem d_Mpr_elementAt_13 : decode b_Mpr_elementAt 13 = .ok (.aload_n 0, 1) := by decide +kernel
theorem d_Mpr_elementAt_14 : decode b_Mpr_elementAt 14 = .ok (.iconst 2, 1) := by decide +kernel
theorem d_Mpr_elementAt_15 : decode b_Mpr_elementAt 15 = .ok (.iconst 0, 1) := by decide +kernel
theorem d_Mpr_elementAt_16 : decode b_Mpr_elementAt 16 = .ok (.invokevirtual 134, 3) := by decide +kernel
theorem d_Mpr_elementAt_19 : decode b_Mpr_elementAt 19 = .ok (.iconst (-1), 1) := by decide +kernel
theorem d_Mpr_elementAt_20 : decode b_Mpr_elementAt 20 = .ok (.ireturn, 1) := by decide +kernel
theorem d_Mpr_elementAt_21 : decode b_Mpr_elementAt 21 = .ok (.aload_n 0, 1) := by decide +kernel
theorem d_Mpr_elementAt_22 : decode b_Mpr_elementAt 22 = .ok (.iload_n 1, 1) := by decide +kernel
theorem d_Mpr_elementAt_23 : decode b_Mpr_elementAt 23 = .ok (.invokevirtual 138, 3) := by decide +kernel
theorem d_Mpr_elementAt_26 : decode b_Mpr_elementAt 26 = .ok (.iload_n 2, 1) := by decide +kernel
theorem d_Mpr_elementAt_27 : decode b_Mpr_elementAt 27 = .ok (.iadd, 1) := by decide +kernel
theorem d_Mpr_elementAt_28 : decode b_Mpr_elementAt 28 = .ok (.ireturn, 1) := by decide +kernel
theorem q_Mpr_elementAt : px_y y_Mpr_elementAt 2 := by unfold px_y; decide +kernel
set_option maxHeartbeats 4000000 in
set_option maxRecDepth 100000 in
theorem c_mr_elementAt (l : Launch) (D : va_G) (cs : Nat → ClassId) (nf : Int) (q : Nat) (qr : Nat → Nat) (qg : Nat → Nat → Option Nat) (qa : Nat → Nat → Int32) (qf : Nat → Int32) (h : Nat) (r : Nat → Nat) (g : Nat → Nat → Option Nat) (tf : Nat → Int32) (ta : Nat → Nat → Int32) (pf : Nat → Int32) (na : Nat → Nat → Int32) (ma : Nat → Nat → Int32) (wa : Nat → Nat → Int32) (cf : Nat → Int32) (ca : Nat → Nat → Int32) (ef : Nat → Int32) (ea : Nat → Nat → Int32) (xf : Nat → Int32) (xa : Nat → Nat → Int32) (p0 p1 : Int32)  (g0 : 0 ≤ p0.toInt) (g1 : p0.toInt < 1100) (g2 : 0 ≤ clo ca (qf 12).toInt p0) (g3 : clo ca (qf 12).toInt p0 ≤ 36990) (hhd : ∀ c : Int, (arA ca qa (qf 12).toInt p0) ≤ c → c < (arA ca qa (qf 12).toInt p0) + (arN ca qa (qf 12).toInt p0) → 0 ≤ c ∧ c < 37000) : MetI l y_Mpr_elementAt b_Mpr_elementAt 3 (.int) D cs 3 100 (0) (0) [.ref q, .int p0, .int p1] [wd_Mpr cs q qr (fun k => if k = 0 then (some h) else none) qf qa qg, wdP cs h r g tf ta pf na ma wa cf ca ef ea xf xa] (oX (fun A U H => (oP A g U H)) [wd_Mpr cs q qr (fun k => if k = 0 then (some h) else none) qf qa qg, wdP cs h r g tf ta pf na ma wa cf ca ef ea xf xa]) (fun v ps => ∃ (qf' : Nat → Int32), (ps = [wd_Mpr cs q qr (fun k => if k = 0 then (some h) else none) qf' qa qg, wdP cs h r g tf ta pf na ma wa cf ca ef ea xf xa]) ∧ (-1 ≤ v.toInt) ∧ (v.toInt < 37000) ∧ (ElV v.toInt (qf' 2).toInt (qf 2).toInt (arA ca qa (qf 12).toInt p0) (arN ca qa (qf 12).toInt p0) p1.toInt) ∧ ((qf' 1).toInt = (qf 1).toInt) ∧ ((qf' 4).toInt = (qf 4).toInt) ∧ ((qf' 5).toInt = (qf 5).toInt) ∧ ((qf' 6).toInt = (qf 6).toInt) ∧ ((qf' 7).toInt = (qf 7).toInt) ∧ ((qf' 10).toInt = (qf 10).toInt) ∧ ((qf' 11).toInt = (qf 11).toInt) ∧ ((qf' 12).toInt = (qf 12).toInt) ∧ ((qf' 13).toInt = (qf 13).toInt) ∧ ((qf' 14).toInt = (qf 14).toInt) ∧ ((qf' 21).toInt = (qf 21).toInt) ∧ ((qf' 23).toInt = (qf 23).toInt) ∧ ((qf' 24).toInt = (qf 24).toInt)) := by
  refine px_enter (by decide) (Nat.le_of_ble_eq_true rfl) ?_
  intro p e s m below meth c A ls hAe S hr hlk hnm hA hT hX hw hl
  replace hl : lv_has ls 3 [(0, .ref q), (1, .int p0), (2, .int p1)] := hl
  have lp0 := Int32.le_toInt p0
  have up0 := Int32.toInt_lt p0
  have lp1 := Int32.le_toInt p1
  have up1 := Int32.toInt_lt p1
  have cstm1 : ((-1) : Int32).toInt = (-1) := rfl
  have cst0 : (0 : Int32).toInt = 0 := rfl
  have cst2 : (2 : Int32).toInt = 2 := rfl
  have hX : (fun A U H => (oP A g U H)) A s s.heap := by rw [hAe]; exact hX
  have hP := hX
  have hZ := hP.1
  have hF0 := hP.2.1
  refine lv_iload_n S.x S.b d_Mpr_elementAt_0 rfl (lv_at hl 2 rfl) ?_
  refine lv_if_lt (tgt := 13) S.x S.b d_Mpr_elementAt_1 (by decide) (fun c1 => ?_) (fun c1 => ?_)
  · have nc1 : p1.toInt < (0 : Int) := (i_lt (x := p1) (y := 0)).mp c1
    refine lv_aload_n S.x S.b d_Mpr_elementAt_13 rfl (lv_at hl 0 rfl) ?_
    refine lv_iconst (v := 2) S.x S.b d_Mpr_elementAt_14 (by decide) ?_
    refine lv_iconst (v := 0) S.x S.b d_Mpr_elementAt_15 (by decide) ?_
    refine px_callv (pr := []) (px_runV (As := [.int 2, .int 0]) (rest := []) S (c_mr_end l D cs nf q qr qg qa qf h r g tf ta pf na ma wa cf ca ef ea xf xa 2 0   _) hT (pr := []) (pcs := [wd_Mpr cs q qr (fun k => if k = 0 then (some h) else none) qf qa qg, wdP cs h r g tf ta pf na ma wa cf ca ef ea xf xa]) hw (oX_call (P := (fun A U H => (oP A g U H))) (pr := []) oG_P hw hA hP) (px_recv hT hw 0 0 rfl rfl rfl) m13_177 m13_174 m13_175 m13_176 m1_22 q_Mpr_end ⟨Nat.le_of_ble_eq_true rfl, Nat.le_of_ble_eq_true rfl⟩ hl.1 rfl (Nat.le_of_ble_eq_true rfl) d_Mpr_elementAt_16 ⟨Nat.le_of_ble_eq_true rfl, Nat.le_of_ble_eq_true rfl⟩) hw hA (fun p4 H locs hp4 hw => ?_)
    obtain ⟨qf3, rfl, e6, e7, e8, e9, e10, e11, e12, e13, e14, e15, e16, e17, e18, e19, e20⟩ := hp4
    replace e6 : (qf3 2).toInt = (2 : Int) := e6
    replace e7 : (qf3 3).toInt = (0 : Int) := e7
    replace e8 : (qf3 1).toInt = (qf 1).toInt := e8
    replace e9 : (qf3 4).toInt = (qf 4).toInt := e9
    replace e10 : (qf3 5).toInt = (qf 5).toInt := e10
    replace e11 : (qf3 6).toInt = (qf 6).toInt := e11
    replace e12 : (qf3 7).toInt = (qf 7).toInt := e12
    replace e13 : (qf3 10).toInt = (qf 10).toInt := e13
    replace e14 : (qf3 11).toInt = (qf 11).toInt := e14
    replace e15 : (qf3 12).toInt = (qf 12).toInt := e15
    replace e16 : (qf3 13).toInt = (qf 13).toInt := e16
    replace e17 : (qf3 14).toInt = (qf 14).toInt := e17
    replace e18 : (qf3 21).toInt = (qf 21).toInt := e18
    replace e19 : (qf3 23).toInt = (qf 23).toInt := e19
    replace e20 : (qf3 24).toInt = (qf 24).toInt := e20
    replace hw : pw D A s.heap H locs [wd_Mpr cs q qr (fun k => if k = 0 then (some h) else none) qf3 qa qg, wdP cs h r g tf ta pf na ma wa cf ca ef ea xf xa] := hw
    refine lv_iconst (v := (-1)) S.x S.b d_Mpr_elementAt_19 (by decide) ?_
    exact px_iret (v := (-1)) S hr rfl hlk hAe hw (Nat.le_of_ble_eq_true rfl) (Nat.le_of_ble_eq_true rfl) (⟨qf3, rfl, (show -1 ≤ (-1 : Int) from by first | decide | omega), (show (-1 : Int) < 37000 from by first | decide | omega), (show ElV (-1 : Int) (qf3 2).toInt (qf 2).toInt (arA ca qa (qf 12).toInt p0) (arN ca qa (qf 12).toInt p0) p1.toInt from (Or.inr ⟨by omega, by omega⟩)), (show (qf3 1).toInt = (qf 1).toInt from by first | exact e8 | omega), (show (qf3 4).toInt = (qf 4).toInt from by first | exact e9 | omega), (show (qf3 5).toInt = (qf 5).toInt from by first | exact e10 | omega), (show (qf3 6).toInt = (qf 6).toInt from by first | exact e11 | omega), (show (qf3 7).toInt = (qf 7).toInt from by first | exact e12 | omega), (show (qf3 10).toInt = (qf 10).toInt from by first | exact e13 | omega), (show (qf3 11).toInt = (qf 11).toInt from by first | exact e14 | omega), (show (qf3 12).toInt = (qf 12).toInt from by first | exact e15 | omega), (show (qf3 13).toInt = (qf 13).toInt from by first | exact e16 | omega), (show (qf3 14).toInt = (qf 14).toInt from by first | exact e17 | omega), (show (qf3 21).toInt = (qf 21).toInt from by first | exact e18 | omega), (show (qf3 23).toInt = (qf 23).toInt from by first | exact e19 | omega), (show (qf3 24).toInt = (qf 24).toInt from by first | exact e20 | omega)⟩) d_Mpr_elementAt_20
  · have nc1 : ¬ p1.toInt < (0 : Int) := mt (i_lt (x := p1) (y := 0)).mpr c1
    refine lv_iload_n S.x S.b d_Mpr_elementAt_4 rfl (lv_at hl 2 rfl) ?_
    refine lv_aload_n S.x S.b d_Mpr_elementAt_5 rfl (lv_at hl 0 rfl) ?_
    refine lv_iload_n S.x S.b d_Mpr_elementAt_6 rfl (lv_at hl 1 rfl) ?_
    refine px_calli (pr := []) (px_runV (As := [.int p0]) (rest := [.int p1]) S (c_mr_arraySize l D cs nf q qr qg qf qa h r g tf ta pf na ma wa cf ca ef ea xf xa p0  (show 0 ≤ p0.toInt from by first | exact g0 | omega) (show p0.toInt < 1100 from by first | exact g1 | omega) (show 0 ≤ clo ca (qf 12).toInt p0 from by first | exact g2 | omega) (show clo ca (qf 12).toInt p0 ≤ 36990 from by first | exact g3 | omega) _) hT (pr := []) (pcs := [wd_Mpr cs q qr (fun k => if k = 0 then (some h) else none) qf qa qg, wdP cs h r g tf ta pf na ma wa cf ca ef ea xf xa]) hw (oX_call (P := (fun A U H => (oP A g U H))) (pr := []) oG_P hw hA hP) (px_recv hT hw 0 0 rfl rfl rfl) m14_135 m14_132 m14_134 ms_16_14 m1_22 q_Mpr_arraySize ⟨Nat.le_of_ble_eq_true rfl, Nat.le_of_ble_eq_true rfl⟩ hl.1 rfl (Nat.le_of_ble_eq_true rfl) d_Mpr_elementAt_7 ⟨Nat.le_of_ble_eq_true rfl, Nat.le_of_ble_eq_true rfl⟩) hw hA (fun v22 p21 H locs hp21 hw => ?_)
    obtain ⟨rfl, e23⟩ := hp21
    replace e23 : v22.toInt = arN ca qa (qf 12).toInt p0 := e23
    replace hw : pw D A s.heap H locs [wd_Mpr cs q qr (fun k => if k = 0 then (some h) else none) qf qa qg, wdP cs h r g tf ta pf na ma wa cf ca ef ea xf xa] := hw
    have lv22 := Int32.le_toInt v22
    have uv22 := Int32.toInt_lt v22
    refine lv_icmp_lt (tgt := 21) S.x S.b d_Mpr_elementAt_10 (by decide) (fun c24 => ?_) (fun c24 => ?_)
    · have nc24 : p1.toInt < v22.toInt := (i_lt (x := p1) (y := v22)).mp c24
      refine lv_aload_n S.x S.b d_Mpr_elementAt_21 rfl (lv_at hl 0 rfl) ?_
      refine lv_iload_n S.x S.b d_Mpr_elementAt_22 rfl (lv_at hl 1 rfl) ?_
      refine px_calli (pr := []) (px_runV (As := [.int p0]) (rest := []) S (c_mr_arrayAt l D cs nf q qr qg qf qa h r g tf ta pf na ma wa cf ca ef ea xf xa p0  (show 0 ≤ p0.toInt from by first | exact g0 | omega) (show p0.toInt < 1100 from by first | exact g1 | omega) (show 0 ≤ clo ca (qf 12).toInt p0 from by first | exact g2 | omega) (show clo ca (qf 12).toInt p0 ≤ 36990 from by first | exact g3 | omega) _) hT (pr := []) (pcs := [wd_Mpr cs q qr (fun k => if k = 0 then (some h) else none) qf qa qg, wdP cs h r g tf ta pf na ma wa cf ca ef ea xf xa]) hw (oX_call (P := (fun A U H => (oP A g U H))) (pr := []) oG_P hw hA hP) (px_recv hT hw 0 0 rfl rfl rfl) m14_143 m14_140 m14_142 ms_17_0 m1_22 q_Mpr_arrayAt ⟨Nat.le_of_ble_eq_true rfl, Nat.le_of_ble_eq_true rfl⟩ hl.1 rfl (Nat.le_of_ble_eq_true rfl) d_Mpr_elementAt_23 ⟨Nat.le_of_ble_eq_true rfl, Nat.le_of_ble_eq_true rfl⟩) hw hA (fun v26 p25 H locs hp25 hw => ?_)
      obtain ⟨rfl, e27⟩ := hp25
      replace e27 : v26.toInt = arA ca qa (qf 12).toInt p0 := e27
      replace hw : pw D A s.heap H locs [wd_Mpr cs q qr (fun k => if k = 0 then (some h) else none) qf qa qg, wdP cs h r g tf ta pf na ma wa cf ca ef ea xf xa] := hw
      have lv26 := Int32.le_toInt v26
      have uv26 := Int32.toInt_lt v26
      have hx := hhd ((arA ca qa (qf 12).toInt p0) + p1.toInt) (by omega) (by omega)
      refine lv_iload_n S.x S.b d_Mpr_elementAt_26 rfl (lv_at hl 2 rfl) ?_
      refine lv_iadd S.x S.b d_Mpr_elementAt_27 ?_
      refine lv_topi (fun z28 ez28 => ?_)
      have tz28 : z28.toInt = (v26.toInt + p1.toInt + 2147483648) % 4294967296 - 2147483648 := by rw [ez28]; exact i_add v26 p1
      have lz28 := Int32.le_toInt z28
      have uz28 := Int32.toInt_lt z28
      try replace tz28 : z28.toInt = v26.toInt + p1.toInt := by omega
      exact px_iret (v := z28) S hr rfl hlk hAe hw (Nat.le_of_ble_eq_true rfl) (Nat.le_of_ble_eq_true rfl) (⟨qf, rfl, (show -1 ≤ z28.toInt from by first | with_reducible rfl | with_reducible assumption | omega), (show z28.toInt < 37000 from by first | with_reducible rfl | with_reducible assumption | omega), (show ElV z28.toInt (qf 2).toInt (qf 2).toInt (arA ca qa (qf 12).toInt p0) (arN ca qa (qf 12).toInt p0) p1.toInt from (Or.inl ⟨by omega, by omega, by omega, by omega⟩)), (show (qf 1).toInt = (qf 1).toInt from rfl), (show (qf 4).toInt = (qf 4).toInt from rfl), (show (qf 5).toInt = (qf 5).toInt from rfl), (show (qf 6).toInt = (qf 6).toInt from rfl), (show (qf 7).toInt = (qf 7).toInt from rfl), (show (qf 10).toInt = (qf 10).toInt from rfl), (show (qf 11).toInt = (qf 11).toInt from rfl), (show (qf 12).toInt = (qf 12).toInt from rfl), (show (qf 13).toInt = (qf 13).toInt from rfl), (show (qf 14).toInt = (qf 14).toInt from rfl), (show (qf 21).toInt = (qf 21).toInt from rfl), (show (qf 23).toInt = (qf 23).toInt from rfl), (show (qf 24).toInt = (qf 24).toInt from rfl)⟩) d_Mpr_elementAt_28
    · have nc24 : ¬ p1.toInt < v22.toInt := mt (i_lt (x := p1) (y := v22)).mpr c24
      refine lv_aload_n S.x S.b d_Mpr_elementAt_13 rfl (lv_at hl 0 rfl) ?_
      refine lv_iconst (v := 2) S.x S.b d_Mpr_elementAt_14 (by decide) ?_
      refine lv_iconst (v := 0) S.x S.b d_Mpr_elementAt_15 (by decide) ?_
      refine px_callv (pr := []) (px_runV (As := [.int 2, .int 0]) (rest := []) S (c_mr_end l D cs nf q qr qg qa qf h r g tf ta pf na ma wa cf ca ef ea xf xa 2 0   _) hT (pr := []) (pcs := [wd_Mpr cs q qr (fun k => if k = 0 then (some h) else none) qf qa qg, wdP cs h r g tf ta pf na ma wa cf ca ef ea xf xa]) hw (oX_call (P := (fun A U H => (oP A g U H))) (pr := []) oG_P hw hA hP) (px_recv hT hw 0 0 rfl rfl rfl) m13_177 m13_174 m13_175 m13_176 m1_22 q_Mpr_end ⟨Nat.le_of_ble_eq_true rfl, Nat.le_of_ble_eq_true rfl⟩ hl.1 rfl (Nat.le_of_ble_eq_true rfl) d_Mpr_elementAt_16 ⟨Nat.le_of_ble_eq_true rfl, Nat.le_of_ble_eq_true rfl⟩) hw hA (fun p31 H locs hp31 hw => ?_)
      obtain ⟨qf30, rfl, e33, e34, e35, e36, e37, e38, e39, e40, e41, e42, e43, e44, e45, e46, e47⟩ := hp31
      replace e33 : (qf30 2).toInt = (2 : Int) := e33
      replace e34 : (qf30 3).toInt = (0 : Int) := e34
      replace e35 : (qf30 1).toInt = (qf 1).toInt := e35
      replace e36 : (qf30 4).toInt = (qf 4).toInt := e36
      replace e37 : (qf30 5).toInt = (qf 5).toInt := e37
      replace e38 : (qf30 6).toInt = (qf 6).toInt := e38
      replace e39 : (qf30 7).toInt = (qf 7).toInt := e39
      replace e40 : (qf30 10).toInt = (qf 10).toInt := e40
      replace e41 : (qf30 11).toInt = (qf 11).toInt := e41
      replace e42 : (qf30 12).toInt = (qf 12).toInt := e42
      replace e43 : (qf30 13).toInt = (qf 13).toInt := e43
      replace e44 : (qf30 14).toInt = (qf 14).toInt := e44
      replace e45 : (qf30 21).toInt = (qf 21).toInt := e45
      replace e46 : (qf30 23).toInt = (qf 23).toInt := e46
      replace e47 : (qf30 24).toInt = (qf 24).toInt := e47
      replace hw : pw D A s.heap H locs [wd_Mpr cs q qr (fun k => if k = 0 then (some h) else none) qf30 qa qg, wdP cs h r g tf ta pf na ma wa cf ca ef ea xf xa] := hw
      refine lv_iconst (v := (-1)) S.x S.b d_Mpr_elementAt_19 (by decide) ?_
      exact px_iret (v := (-1)) S hr rfl hlk hAe hw (Nat.le_of_ble_eq_true rfl) (Nat.le_of_ble_eq_true rfl) (⟨qf30, rfl, (show -1 ≤ (-1 : Int) from by first | decide | omega), (show (-1 : Int) < 37000 from by first | decide | omega), (show ElV (-1 : Int) (qf30 2).toInt (qf 2).toInt (arA ca qa (qf 12).toInt p0) (arN ca qa (qf 12).toInt p0) p1.toInt from (Or.inr ⟨by omega, by omega⟩)), (show (qf30 1).toInt = (qf 1).toInt from by first | exact e35 | omega), (show (qf30 4).toInt = (qf 4).toInt from by first | exact e36 | omega), (show (qf30 5).toInt = (qf 5).toInt from by first | exact e37 | omega), (show (qf30 6).toInt = (qf 6).toInt from by first | exact e38 | omega), (show (qf30 7).toInt = (qf 7).toInt from by first | exact e39 | omega), (show (qf30 10).toInt = (qf 10).toInt from by first | exact e40 | omega), (show (qf30 11).toInt = (qf 11).toInt from by first | exact e41 | omega), (show (qf30 12).toInt = (qf 12).toInt from by first | exact e42 | omega), (show (qf30 13).toInt = (qf 13).toInt from by first | exact e43 | omega), (show (qf30 14).toInt = (qf 14).toInt from by first | exact e44 | omega), (show (qf30 21).toInt = (qf 21).toInt from by first | exact e45 | omega), (show (qf30 23).toInt = (qf 23).toInt from by first | exact e46 | omega), (show (qf30 24).toInt = (qf 24).toInt from by first | exact e47 | omega)⟩) d_Mpr_elementAt_20
abbrev b_Mpr_takesWork : ByteArray := prog_15_method_19_code
def y_Mpr_takesWork : MethodName := ⟨"HomeSystemModel$Process", "takesWork", "()Z"⟩
theorem d_Mpr_takesWork_0 : decode b_Mpr_takesWork 0 = .ok (.aload_n 0, 1) := by decide +kernel
theorem d_Mpr_takesWork_1 : decode b_Mpr_takesWork 1 = .ok (.getfield 88, 3) := by decide +kernel
theorem d_Mpr_takesWork_4 : decode b_Mpr_takesWork 4 = .ok (.ifCond .ne 11, 3) := by decide +kernel
theorem d_Mpr_takesWork_7 : decode b_Mpr_takesWork 7 = .ok (.aload_n 0, 1) := by decide +kernel
theorem d_Mpr_takesWork_8 : decode b_Mpr_takesWork 8 = .ok (.iconst 5, 1) := by decide +kernel
theorem d_Mpr_takesWork_9 : decode b_Mpr_takesWork 9 = .ok (.iconst 0, 1) := by decide +kernel
theorem d_Mpr_takesWork_10 : decode b_Mpr_takesWork 10 = .ok (.invokevirtual 134, 3) := by decide +kernel
theorem d_Mpr_takesWork_13 : decode b_Mpr_takesWork 13 = .ok (.iconst 0, 1) := by decide +kernel
theorem d_Mpr_takesWork_14 : decode b_Mpr_takesWork 14 = .ok (.ireturn, 1) := by decide +kernel
theorem d_Mpr_takesWork_15 : decode b_Mpr_takesWork 15 = .ok (.aload_n 0, 1) := by decide +kernel
theorem d_Mpr_takesWork_16 : decode b_Mpr_takesWork 16 = .ok (.dup, 1) := by decide +kernel
theorem d_Mpr_takesWork_17 : decode b_Mpr_takesWork 17 = .ok (.getfield 88, 3) := by decide +kernel
theorem d_Mpr_takesWork_20 : decode b_Mpr_takesWork 20 = .ok (.iconst 1, 1) := by decide +kernel
theorem d_Mpr_takesWork_21 : decode b_Mpr_takesWork 21 = .ok (.isub, 1) := by decide +kernel
theorem d_Mpr_takesWork_22 : decode b_Mpr_takesWork 22 = .ok (.putfield 88, 3) := by decide +kernel
theorem d_Mpr_takesWork_25 : decode b_Mpr_takesWork 25 = .ok (.iconst 1, 1) := by decide +kernel
theorem d_Mpr_takesWork_26 : decode b_Mpr_takesWork 26 = .ok (.ireturn, 1) := by decide +kernel
theorem q_Mpr_takesWork : px_y y_Mpr_takesWork 0 := by unfold px_y; decide +kernel
set_option maxHeartbeats 4000000 in
set_option maxRecDepth 100000 in
theorem c_mr_takesWork (l : Launch) (D : va_G) (cs : Nat → ClassId) (nf : Int) (q : Nat) (qr : Nat → Nat) (qg : Nat → Nat → Option Nat) (qa : Nat → Nat → Int32) (qf : Nat → Int32) (h : Nat) (r : Nat → Nat) (g : Nat → Nat → Option Nat) (tf : Nat → Int32) (ta : Nat → Nat → Int32) (pf : Nat → Int32) (na : Nat → Nat → Int32) (ma : Nat → Nat → Int32) (wa : Nat → Nat → Int32) (cf : Nat → Int32) (ca : Nat → Nat → Int32) (ef : Nat → Int32) (ea : Nat → Nat → Int32) (xf : Nat → Int32) (xa : Nat → Nat → Int32)  (g0 : 0 ≤ (qf 4).toInt) : MetI l y_Mpr_takesWork b_Mpr_takesWork 1 (.boolean) D cs 1 30 (0) (0) [.ref q] [wd_Mpr cs q qr (fun k => if k = 0 then (some h) else none) qf qa qg, wdP cs h r g tf ta pf na ma wa cf ca ef ea xf xa] (oX (fun A U H => (oP A g U H)) [wd_Mpr cs q qr (fun k => if k = 0 then (some h) else none) qf qa qg, wdP cs h r g tf ta pf na ma wa cf ca ef ea xf xa]) (fun v ps => ∃ (qf' : Nat → Int32), (ps = [wd_Mpr cs q qr (fun k => if k = 0 then (some h) else none) qf' qa qg, wdP cs h r g tf ta pf na ma wa cf ca ef ea xf xa]) ∧ (0 ≤ v.toInt) ∧ (v.toInt ≤ 1) ∧ (v.toInt = 1 → (qf' 4).toInt = (qf 4).toInt - 1) ∧ (v.toInt = 1 → (qf' 2).toInt = (qf 2).toInt) ∧ (v.toInt = 1 → 1 ≤ (qf 4).toInt) ∧ (v.toInt = 0 → (qf' 2).toInt = 5) ∧ (v.toInt = 0 → (qf' 4).toInt = (qf 4).toInt) ∧ ((qf' 1).toInt = (qf 1).toInt) ∧ ((qf' 5).toInt = (qf 5).toInt) ∧ ((qf' 6).toInt = (qf 6).toInt) ∧ ((qf' 7).toInt = (qf 7).toInt) ∧ ((qf' 10).toInt = (qf 10).toInt) ∧ ((qf' 11).toInt = (qf 11).toInt) ∧ ((qf' 12).toInt = (qf 12).toInt) ∧ ((qf' 13).toInt = (qf 13).toInt) ∧ ((qf' 14).toInt = (qf 14).toInt) ∧ ((qf' 21).toInt = (qf 21).toInt) ∧ ((qf' 23).toInt = (qf 23).toInt) ∧ ((qf' 24).toInt = (qf 24).toInt)) := by
  refine px_enter (by decide) (Nat.le_of_ble_eq_true rfl) ?_
  intro p e s m below meth c A ls hAe S hr hlk hnm hA hT hX hw hl
  replace hl : lv_has ls 1 [(0, .ref q)] := hl
  have cst0 : (0 : Int32).toInt = 0 := rfl
  have cst1 : (1 : Int32).toInt = 1 := rfl
  have cst5 : (5 : Int32).toInt = 5 := rfl
  have hX : (fun A U H => (oP A g U H)) A s s.heap := by rw [hAe]; exact hX
  have hP := hX
  have hZ := hP.1
  have hF0 := hP.2.1
  refine lv_aload_n S.x S.b d_Mpr_takesWork_0 rfl (lv_at hl 0 rfl) ?_
  refine px_get S k_Mpr hT hw 0 0 4 (v := .int (qf 4)) rfl rfl rfl (by decide) m10_229 d_Mpr_takesWork_1 ?_
  refine lv_if_ne (tgt := 15) S.x S.b d_Mpr_takesWork_4 (by decide) (fun c1 => ?_) (fun c1 => ?_)
  · have nc1 : ¬ (qf 4).toInt = (0 : Int) := mt (i_eq (x := (qf 4)) (y := 0)).mpr c1
    refine lv_aload_n S.x S.b d_Mpr_takesWork_15 rfl (lv_at hl 0 rfl) ?_
    refine lv_dup S.x S.b d_Mpr_takesWork_16 rfl ?_
    refine px_get S k_Mpr hT hw 0 0 4 (v := .int (qf 4)) rfl rfl rfl (by decide) m10_229 d_Mpr_takesWork_17 ?_
    refine lv_iconst (v := 1) S.x S.b d_Mpr_takesWork_20 (by decide) ?_
    refine lv_isub S.x S.b d_Mpr_takesWork_21 ?_
    have lr2 := Int32.le_toInt (qf 4)
    have ur2 := Int32.toInt_lt (qf 4)
    refine lv_topi (fun z3 ez3 => ?_)
    have tz3 : z3.toInt = ((qf 4).toInt - (1 : Int) + 2147483648) % 4294967296 - 2147483648 := by rw [ez3]; exact i_sub (qf 4) 1
    have lz3 := Int32.le_toInt z3
    have uz3 := Int32.toInt_lt z3
    try replace tz3 : z3.toInt = (qf 4).toInt - (1 : Int) := by omega
    refine px_put S k_Mpr hT hw 0 0 4 rfl rfl (by decide) m10_229 rfl rfl rfl (Nat.le_of_ble_eq_true rfl) d_Mpr_takesWork_22 (w' := wd_Mpr cs q qr (fun k => if k = 0 then (some h) else none) (upd qf 4 z3) qa qg) (ps' := [wd_Mpr cs q qr (fun k => if k = 0 then (some h) else none) (upd qf 4 z3) qa qg, wdP cs h r g tf ta pf na ma wa cf ca ef ea xf xa]) rfl rfl (fun H locs hw => ?_)
    refine lv_iconst (v := 1) S.x S.b d_Mpr_takesWork_25 (by decide) ?_
    exact px_iret (v := 1) S hr rfl hlk hAe hw (Nat.le_of_ble_eq_true rfl) (Nat.le_of_ble_eq_true rfl) (⟨(upd qf 4 z3), rfl, (show 0 ≤ (1 : Int) from by first | decide | omega), (show (1 : Int) ≤ 1 from by first | decide | omega), (show (1 : Int) = 1 → z3.toInt = (qf 4).toInt - 1 from by first | with_reducible rfl | with_reducible assumption | omega), (show (1 : Int) = 1 → (qf 2).toInt = (qf 2).toInt from by first | with_reducible rfl | with_reducible assumption | omega), (show (1 : Int) = 1 → 1 ≤ (qf 4).toInt from by first | with_reducible rfl | with_reducible assumption | omega), (show (1 : Int) = 0 → (qf 2).toInt = 5 from by first | with_reducible rfl | with_reducible assumption | omega), (show (1 : Int) = 0 → z3.toInt = (qf 4).toInt from by first | with_reducible rfl | with_reducible assumption | omega), (show (qf 1).toInt = (qf 1).toInt from rfl), (show (qf 5).toInt = (qf 5).toInt from rfl), (show (qf 6).toInt = (qf 6).toInt from rfl), (show (qf 7).toInt = (qf 7).toInt from rfl), (show (qf 10).toInt = (qf 10).toInt from rfl), (show (qf 11).toInt = (qf 11).toInt from rfl), (show (qf 12).toInt = (qf 12).toInt from rfl), (show (qf 13).toInt = (qf 13).toInt from rfl), (show (qf 14).toInt = (qf 14).toInt from rfl), (show (qf 21).toInt = (qf 21).toInt from rfl), (show (qf 23).toInt = (qf 23).toInt from rfl), (show (qf 24).toInt = (qf 24).toInt from rfl)⟩) d_Mpr_takesWork_26
  · have nc1 : (qf 4).toInt = (0 : Int) := (i_eq (x := (qf 4)) (y := 0)).mp c1
    refine lv_aload_n S.x S.b d_Mpr_takesWork_7 rfl (lv_at hl 0 rfl) ?_
    refine lv_iconst (v := 5) S.x S.b d_Mpr_takesWork_8 (by decide) ?_
    refine lv_iconst (v := 0) S.x S.b d_Mpr_takesWork_9 (by decide) ?_
    refine px_callv (pr := []) (px_runV (As := [.int 5, .int 0]) (rest := []) S (c_mr_end l D cs nf q qr qg qa qf h r g tf ta pf na ma wa cf ca ef ea xf xa 5 0   _) hT (pr := []) (pcs := [wd_Mpr cs q qr (fun k => if k = 0 then (some h) else none) qf qa qg, wdP cs h r g tf ta pf na ma wa cf ca ef ea xf xa]) hw (oX_call (P := (fun A U H => (oP A g U H))) (pr := []) oG_P hw hA hP) (px_recv hT hw 0 0 rfl rfl rfl) m13_177 m13_174 m13_175 m13_176 m1_22 q_Mpr_end ⟨Nat.le_of_ble_eq_true rfl, Nat.le_of_ble_eq_true rfl⟩ hl.1 rfl (Nat.le_of_ble_eq_true rfl) d_Mpr_takesWork_10 ⟨Nat.le_of_ble_eq_true rfl, Nat.le_of_ble_eq_true rfl⟩) hw hA (fun p6 H locs hp6 hw => ?_)
    obtain ⟨qf5, rfl, e8, e9, e10, e11, e12, e13, e14, e15, e16, e17, e18, e19, e20, e21, e22⟩ := hp6
    replace e8 : (qf5 2).toInt = (5 : Int) := e8
    replace e9 : (qf5 3).toInt = (0 : Int) := e9
    replace e10 : (qf5 1).toInt = (qf 1).toInt := e10
    replace e11 : (qf5 4).toInt = (qf 4).toInt := e11
    replace e12 : (qf5 5).toInt = (qf 5).toInt := e12
    replace e13 : (qf5 6).toInt = (qf 6).toInt := e13
    replace e14 : (qf5 7).toInt = (qf 7).toInt := e14
    replace e15 : (qf5 10).toInt = (qf 10).toInt := e15
    replace e16 : (qf5 11).toInt = (qf 11).toInt := e16
    replace e17 : (qf5 12).toInt = (qf 12).toInt := e17
    replace e18 : (qf5 13).toInt = (qf 13).toInt := e18
    replace e19 : (qf5 14).toInt = (qf 14).toInt := e19
    replace e20 : (qf5 21).toInt = (qf 21).toInt := e20
    replace e21 : (qf5 23).toInt = (qf 23).toInt := e21
    replace e22 : (qf5 24).toInt = (qf 24).toInt := e22
    replace hw : pw D A s.heap H locs [wd_Mpr cs q qr (fun k => if k = 0 then (some h) else none) qf5 qa qg, wdP cs h r g tf ta pf na ma wa cf ca ef ea xf xa] := hw
    refine lv_iconst (v := 0) S.x S.b d_Mpr_takesWork_13 (by decide) ?_
    exact px_iret (v := 0) S hr rfl hlk hAe hw (Nat.le_of_ble_eq_true rfl) (Nat.le_of_ble_eq_true rfl) (⟨qf5, rfl, (show 0 ≤ (0 : Int) from by first | decide | omega), (show (0 : Int) ≤ 1 from by first | decide | omega), (show (0 : Int) = 1 → (qf5 4).toInt = (qf 4).toInt - 1 from by first | with_reducible rfl | with_reducible assumption | omega), (show (0 : Int) = 1 → (qf5 2).toInt = (qf 2).toInt from by first | with_reducible rfl | with_reducible assumption | omega), (show (0 : Int) = 1 → 1 ≤ (qf 4).toInt from by first | with_reducible rfl | with_reducible assumption | omega), (show (0 : Int) = 0 → (qf5 2).toInt = 5 from by first | with_reducible rfl | with_reducible assumption | omega), (show (0 : Int) = 0 → (qf5 4).toInt = (qf 4).toInt from by first | with_reducible rfl | with_reducible assumption | omega), (show (qf5 1).toInt = (qf 1).toInt from by first | exact e10 | omega), (show (qf5 5).toInt = (qf 5).toInt from by first | exact e12 | omega), (show (qf5 6).toInt = (qf 6).toInt from by first | exact e13 | omega), (show (qf5 7).toInt = (qf 7).toInt from by first | exact e14 | omega), (show (qf5 10).toInt = (qf 10).toInt from by first | exact e15 | omega), (show (qf5 11).toInt = (qf 11).toInt from by first | exact e16 | omega), (show (qf5 12).toInt = (qf 12).toInt from by first | exact e17 | omega), (show (qf5 13).toInt = (qf 13).toInt from by first | exact e18 | omega), (show (qf5 14).toInt = (qf 14).toInt from by first | exact e19 | omega), (show (qf5 21).toInt = (qf 21).toInt from by first | exact e20 | omega), (show (qf5 23).toInt = (qf 23).toInt from by first | exact e21 | omega), (show (qf5 24).toInt = (qf 24).toInt from by first | exact e22 | omega)⟩) d_Mpr_takesWork_14
